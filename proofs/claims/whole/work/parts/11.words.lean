theorem q115 : (Jvm.Cond.initialized "GrownPost") ∈ zGW := zmem 115 (by decide +kernel) (by decide +kernel)
theorem q116 : (Jvm.Cond.initialized "GrownPost$World") ∈ zGW := zmem 116 (by decide +kernel) (by decide +kernel)
theorem q117 : (Jvm.Cond.initialized "GrownPost$Bag") ∈ zGW := zmem 117 (by decide +kernel) (by decide +kernel)
theorem q118 : (Jvm.Cond.initialized "GrownPost$Mail") ∈ zGW := zmem 118 (by decide +kernel) (by decide +kernel)
theorem q119 : (Jvm.Cond.initialized "GrownPost$Law") ∈ zGW := zmem 119 (by decide +kernel) (by decide +kernel)
theorem q120 : (Jvm.Cond.initialized "GrownPost$Memory") ∈ zGW := zmem 120 (by decide +kernel) (by decide +kernel)
theorem q121 : (Jvm.Cond.initialized "GrownPost$TextReader") ∈ zGW := zmem 121 (by decide +kernel) (by decide +kernel)
theorem q122 : (Jvm.Cond.initialized "GrownPost$PostReader") ∈ zGW := zmem 122 (by decide +kernel) (by decide +kernel)
theorem q123 : (Jvm.Cond.initialized "GrownPost$Tokens") ∈ zGW := zmem 123 (by decide +kernel) (by decide +kernel)
theorem q124 : (Jvm.Cond.initialized "GrownPost$LawReader") ∈ zGW := zmem 124 (by decide +kernel) (by decide +kernel)
theorem q125 : (Jvm.Cond.initialized "GrownPost$Sight") ∈ zGW := zmem 125 (by decide +kernel) (by decide +kernel)
theorem q126 : (Jvm.Cond.initialized "GrownPost$Shelving") ∈ zGW := zmem 126 (by decide +kernel) (by decide +kernel)
theorem q127 : (Jvm.Cond.initialized "GrownPostModel") ∈ zGW := zmem 127 (by decide +kernel) (by decide +kernel)
theorem q142 : (Jvm.Cond.initialized "java/lang/Integer") ∈ zGW := zmem 142 (by decide +kernel) (by decide +kernel)
theorem q485 : (Jvm.Cond.code ({ cls := "GrownPost", name := "feed", desc := "(IIIII)I" } : Jvm.MethodName) prog_1_method_2_code (6 : Nat) (Option.some Jvm.ClassFile.FieldType.int)) ∈ zGW := zmem 485 (by decide +kernel) (by decide +kernel)
theorem q489 : (Jvm.Cond.code ({ cls := "GrownPost", name := "putBytes", desc := "(I)V" } : Jvm.MethodName) prog_1_method_55_code (3 : Nat) (Option.none : Option Jvm.ClassFile.FieldType)) ∈ zGW := zmem 489 (by decide +kernel) (by decide +kernel)
theorem q493 : (Jvm.Cond.code ({ cls := "GrownPost", name := "end", desc := "(I)Z" } : Jvm.MethodName) prog_1_method_3_code (2 : Nat) (Option.some Jvm.ClassFile.FieldType.boolean)) ∈ zGW := zmem 493 (by decide +kernel) (by decide +kernel)
theorem q497 : (Jvm.Cond.code ({ cls := "GrownPost", name := "fault", desc := "()I" } : Jvm.MethodName) prog_1_method_6_code (1 : Nat) (Option.some Jvm.ClassFile.FieldType.int)) ∈ zGW := zmem 497 (by decide +kernel) (by decide +kernel)
theorem q501 : (Jvm.Cond.code ({ cls := "GrownPost", name := "drawer", desc := "()I" } : Jvm.MethodName) prog_1_method_32_code (6 : Nat) (Option.some Jvm.ClassFile.FieldType.int)) ∈ zGW := zmem 501 (by decide +kernel) (by decide +kernel)
theorem q505 : (Jvm.Cond.code ({ cls := "GrownPost", name := "fillLastsAhead", desc := "()V" } : Jvm.MethodName) prog_1_method_68_code (3 : Nat) (Option.none : Option Jvm.ClassFile.FieldType)) ∈ zGW := zmem 505 (by decide +kernel) (by decide +kernel)
theorem q509 : (Jvm.Cond.code ({ cls := "GrownPost$Sight", name := "look", desc := "(LGrownPost$Mail;I)V" } : Jvm.MethodName) prog_9_method_2_code (3 : Nat) (Option.none : Option Jvm.ClassFile.FieldType)) ∈ zGW := zmem 509 (by decide +kernel) (by decide +kernel)
theorem q513 : (Jvm.Cond.code ({ cls := "GrownPost$Mail", name := "become", desc := "(LGrownPost$Mail;)V" } : Jvm.MethodName) prog_5_method_2_code (2 : Nat) (Option.none : Option Jvm.ClassFile.FieldType)) ∈ zGW := zmem 513 (by decide +kernel) (by decide +kernel)
theorem q520 : (Jvm.Cond.code ({ cls := "GrownPost$Mail", name := "lastKind", desc := "()I" } : Jvm.MethodName) prog_5_method_9_code (1 : Nat) (Option.some Jvm.ClassFile.FieldType.int)) ∈ zGW := zmem 520 (by decide +kernel) (by decide +kernel)
theorem q524 : (Jvm.Cond.code ({ cls := "GrownPost$Mail", name := "kindAt", desc := "(I)I" } : Jvm.MethodName) prog_5_method_7_code (2 : Nat) (Option.some Jvm.ClassFile.FieldType.int)) ∈ zGW := zmem 524 (by decide +kernel) (by decide +kernel)
theorem q528 : (Jvm.Cond.code ({ cls := "GrownPost$Sight", name := "goWeek", desc := "(LGrownPost$Law;)V" } : Jvm.MethodName) prog_9_method_5_code (5 : Nat) (Option.none : Option Jvm.ClassFile.FieldType)) ∈ zGW := zmem 528 (by decide +kernel) (by decide +kernel)
theorem q532 : (Jvm.Cond.code ({ cls := "GrownPost$Law", name := "growth", desc := "(LGrownPost$Mail;I)I" } : Jvm.MethodName) prog_3_method_7_code (3 : Nat) (Option.some Jvm.ClassFile.FieldType.int)) ∈ zGW := zmem 532 (by decide +kernel) (by decide +kernel)
theorem q536 : (Jvm.Cond.code ({ cls := "GrownPost$Law", name := "follows", desc := "(LGrownPost$Mail;II)I" } : Jvm.MethodName) prog_3_method_9_code (6 : Nat) (Option.some Jvm.ClassFile.FieldType.int)) ∈ zGW := zmem 536 (by decide +kernel) (by decide +kernel)
theorem q541 : (Jvm.Cond.code ({ cls := "GrownPost$Law", name := "learnFacts", desc := "(LGrownPost$Mail;II)V" } : Jvm.MethodName) prog_3_method_10_code (5 : Nat) (Option.none : Option Jvm.ClassFile.FieldType)) ∈ zGW := zmem 541 (by decide +kernel) (by decide +kernel)
theorem q544 : (Jvm.Cond.code ({ cls := "GrownPost", name := "seasonOf", desc := "(I)I" } : Jvm.MethodName) prog_1_method_67_code (1 : Nat) (Option.some Jvm.ClassFile.FieldType.int)) ∈ zGW := zmem 544 (by decide +kernel) (by decide +kernel)
theorem q548 : (Jvm.Cond.code ({ cls := "GrownPost$Law", name := "isMet", desc := "(I)Z" } : Jvm.MethodName) prog_3_method_11_code (6 : Nat) (Option.some Jvm.ClassFile.FieldType.boolean)) ∈ zGW := zmem 548 (by decide +kernel) (by decide +kernel)
theorem q551 : (Jvm.Cond.code ({ cls := "GrownPost$Law", name := "join", desc := "(III)I" } : Jvm.MethodName) prog_3_method_12_code (3 : Nat) (Option.some Jvm.ClassFile.FieldType.int)) ∈ zGW := zmem 551 (by decide +kernel) (by decide +kernel)
theorem q555 : (Jvm.Cond.code ({ cls := "GrownPost$Mail", name := "add", desc := "(II)V" } : Jvm.MethodName) prog_5_method_4_code (3 : Nat) (Option.none : Option Jvm.ClassFile.FieldType)) ∈ zGW := zmem 555 (by decide +kernel) (by decide +kernel)
theorem q562 : (Jvm.Cond.code ({ cls := "GrownPost$Bag", name := "areSealed", desc := "(II)Z" } : Jvm.MethodName) prog_2_method_7_code (3 : Nat) (Option.some Jvm.ClassFile.FieldType.boolean)) ∈ zGW := zmem 562 (by decide +kernel) (by decide +kernel)
theorem q566 : (Jvm.Cond.code ({ cls := "GrownPost$Bag", name := "openSet", desc := "()I" } : Jvm.MethodName) prog_2_method_9_code (3 : Nat) (Option.some Jvm.ClassFile.FieldType.int)) ∈ zGW := zmem 566 (by decide +kernel) (by decide +kernel)
theorem q570 : (Jvm.Cond.code ({ cls := "GrownPost", name := "firstMeeting", desc := "(II)I" } : Jvm.MethodName) prog_1_method_69_code (4 : Nat) (Option.some Jvm.ClassFile.FieldType.int)) ∈ zGW := zmem 570 (by decide +kernel) (by decide +kernel)
theorem q574 : (Jvm.Cond.code ({ cls := "GrownPost", name := "spies", desc := "(I)I" } : Jvm.MethodName) prog_1_method_36_code (4 : Nat) (Option.some Jvm.ClassFile.FieldType.int)) ∈ zGW := zmem 574 (by decide +kernel) (by decide +kernel)
theorem q578 : (Jvm.Cond.code ({ cls := "GrownPost$World", name := "wordsIn", desc := "(LGrownPost$Mail;)I" } : Jvm.MethodName) prog_12_method_7_code (4 : Nat) (Option.some Jvm.ClassFile.FieldType.int)) ∈ zGW := zmem 578 (by decide +kernel) (by decide +kernel)
theorem q582 : (Jvm.Cond.code ({ cls := "GrownPost$World", name := "wordsFor", desc := "(I)I" } : Jvm.MethodName) prog_12_method_6_code (2 : Nat) (Option.some Jvm.ClassFile.FieldType.int)) ∈ zGW := zmem 582 (by decide +kernel) (by decide +kernel)
theorem q586 : (Jvm.Cond.code ({ cls := "GrownPost", name := "latest", desc := "(I)I" } : Jvm.MethodName) prog_1_method_49_code (6 : Nat) (Option.some Jvm.ClassFile.FieldType.int)) ∈ zGW := zmem 586 (by decide +kernel) (by decide +kernel)
theorem q590 : (Jvm.Cond.code ({ cls := "GrownPost$Mail", name := "linesOf", desc := "(I)I" } : Jvm.MethodName) prog_5_method_15_code (4 : Nat) (Option.some Jvm.ClassFile.FieldType.int)) ∈ zGW := zmem 590 (by decide +kernel) (by decide +kernel)
theorem q594 : (Jvm.Cond.code ({ cls := "GrownPost", name := "seed", desc := "(I)I" } : Jvm.MethodName) prog_1_method_50_code (3 : Nat) (Option.some Jvm.ClassFile.FieldType.int)) ∈ zGW := zmem 594 (by decide +kernel) (by decide +kernel)
theorem q598 : (Jvm.Cond.code ({ cls := "GrownPost", name := "undo", desc := "()Z" } : Jvm.MethodName) prog_1_method_51_code (1 : Nat) (Option.some Jvm.ClassFile.FieldType.boolean)) ∈ zGW := zmem 598 (by decide +kernel) (by decide +kernel)
theorem q602 : (Jvm.Cond.code ({ cls := "GrownPost$Memory", name := "takeBack", desc := "(LGrownPost$Bag;)Z" } : Jvm.MethodName) prog_6_method_3_code (2 : Nat) (Option.some Jvm.ClassFile.FieldType.boolean)) ∈ zGW := zmem 602 (by decide +kernel) (by decide +kernel)
theorem q606 : (Jvm.Cond.code ({ cls := "GrownPost$Bag", name := "become", desc := "(LGrownPost$Bag;)V" } : Jvm.MethodName) prog_2_method_2_code (3 : Nat) (Option.none : Option Jvm.ClassFile.FieldType)) ∈ zGW := zmem 606 (by decide +kernel) (by decide +kernel)
theorem q611 : (Jvm.Cond.code ({ cls := "GrownPost", name := "image", desc := "()V" } : Jvm.MethodName) prog_1_method_52_code (1 : Nat) (Option.none : Option Jvm.ClassFile.FieldType)) ∈ zGW := zmem 611 (by decide +kernel) (by decide +kernel)
theorem q615 : (Jvm.Cond.code ({ cls := "GrownPost$World", name := "become", desc := "(LGrownPost$World;)V" } : Jvm.MethodName) prog_12_method_2_code (2 : Nat) (Option.none : Option Jvm.ClassFile.FieldType)) ∈ zGW := zmem 615 (by decide +kernel) (by decide +kernel)
theorem q620 : (Jvm.Cond.code ({ cls := "GrownPost$Law", name := "become", desc := "(LGrownPost$Law;)V" } : Jvm.MethodName) prog_3_method_3_code (2 : Nat) (Option.none : Option Jvm.ClassFile.FieldType)) ∈ zGW := zmem 620 (by decide +kernel) (by decide +kernel)
theorem q626 : (Jvm.Cond.code ({ cls := "GrownPost", name := "back", desc := "()Z" } : Jvm.MethodName) prog_1_method_53_code (1 : Nat) (Option.some Jvm.ClassFile.FieldType.boolean)) ∈ zGW := zmem 626 (by decide +kernel) (by decide +kernel)
theorem q630 : (Jvm.Cond.code ({ cls := "GrownPost$Memory", name := "forget", desc := "()V" } : Jvm.MethodName) prog_6_method_4_code (1 : Nat) (Option.none : Option Jvm.ClassFile.FieldType)) ∈ zGW := zmem 630 (by decide +kernel) (by decide +kernel)
theorem q634 : (Jvm.Cond.code ({ cls := "GrownPost", name := "count", desc := "(I)I" } : Jvm.MethodName) prog_1_method_54_code (2 : Nat) (Option.some Jvm.ClassFile.FieldType.int)) ∈ zGW := zmem 634 (by decide +kernel) (by decide +kernel)
theorem q638 : (Jvm.Cond.code ({ cls := "GrownPost$Bag", name := "linesInAll", desc := "()I" } : Jvm.MethodName) prog_2_method_8_code (3 : Nat) (Option.some Jvm.ClassFile.FieldType.int)) ∈ zGW := zmem 638 (by decide +kernel) (by decide +kernel)
theorem q643 : (Jvm.Cond.code ({ cls := "GrownPost$Bag", name := "hotSet", desc := "()I" } : Jvm.MethodName) prog_2_method_10_code (3 : Nat) (Option.some Jvm.ClassFile.FieldType.int)) ∈ zGW := zmem 643 (by decide +kernel) (by decide +kernel)
theorem q652 : (Jvm.Cond.code ({ cls := "GrownPost", name := "post", desc := "()I" } : Jvm.MethodName) prog_1_method_4_code (2 : Nat) (Option.some Jvm.ClassFile.FieldType.int)) ∈ zGW := zmem 652 (by decide +kernel) (by decide +kernel)
theorem q658 : (Jvm.Cond.code ({ cls := "GrownPost$TextReader", name := "readText", desc := "([III)Z" } : Jvm.MethodName) prog_10_method_3_code (5 : Nat) (Option.some Jvm.ClassFile.FieldType.boolean)) ∈ zGW := zmem 658 (by decide +kernel) (by decide +kernel)
theorem q662 : (Jvm.Cond.code ({ cls := "GrownPost$Tokens", name := "scan", desc := "([II)V" } : Jvm.MethodName) prog_11_method_2_code (6 : Nat) (Option.none : Option Jvm.ClassFile.FieldType)) ∈ zGW := zmem 662 (by decide +kernel) (by decide +kernel)
theorem q668 : (Jvm.Cond.code ({ cls := "GrownPost$Tokens", name := "endOf", desc := "(I)I" } : Jvm.MethodName) prog_11_method_4_code (4 : Nat) (Option.some Jvm.ClassFile.FieldType.int)) ∈ zGW := zmem 668 (by decide +kernel) (by decide +kernel)
theorem q671 : (Jvm.Cond.code ({ cls := "GrownPost$Tokens", name := "sortOf", desc := "(I)I" } : Jvm.MethodName) prog_11_method_5_code (1 : Nat) (Option.some Jvm.ClassFile.FieldType.int)) ∈ zGW := zmem 671 (by decide +kernel) (by decide +kernel)
theorem q675 : (Jvm.Cond.code ({ cls := "GrownPost$Tokens", name := "addToken", desc := "(II)V" } : Jvm.MethodName) prog_11_method_3_code (3 : Nat) (Option.none : Option Jvm.ClassFile.FieldType)) ∈ zGW := zmem 675 (by decide +kernel) (by decide +kernel)
theorem q679 : (Jvm.Cond.code ({ cls := "GrownPost$Tokens", name := "codeOf", desc := "(II)I" } : Jvm.MethodName) prog_11_method_6_code (4 : Nat) (Option.some Jvm.ClassFile.FieldType.int)) ∈ zGW := zmem 679 (by decide +kernel) (by decide +kernel)
theorem q683 : (Jvm.Cond.code ({ cls := "GrownPost$Tokens", name := "wordCode", desc := "(II)I" } : Jvm.MethodName) prog_11_method_8_code (6 : Nat) (Option.some Jvm.ClassFile.FieldType.int)) ∈ zGW := zmem 683 (by decide +kernel) (by decide +kernel)
theorem q736 : (Jvm.Cond.code ({ cls := "GrownPost$Tokens", name := "isKnown", desc := "(III)Z" } : Jvm.MethodName) prog_11_method_9_code (5 : Nat) (Option.some Jvm.ClassFile.FieldType.boolean)) ∈ zGW := zmem 736 (by decide +kernel) (by decide +kernel)
theorem q740 : (Jvm.Cond.code ({ cls := "GrownPost$Tokens", name := "numberCode", desc := "(II)I" } : Jvm.MethodName) prog_11_method_7_code (5 : Nat) (Option.some Jvm.ClassFile.FieldType.int)) ∈ zGW := zmem 740 (by decide +kernel) (by decide +kernel)
theorem q744 : (Jvm.Cond.code ({ cls := "GrownPost$Tokens", name := "code", desc := "()I" } : Jvm.MethodName) prog_11_method_10_code (1 : Nat) (Option.some Jvm.ClassFile.FieldType.int)) ∈ zGW := zmem 744 (by decide +kernel) (by decide +kernel)
theorem q750 : (Jvm.Cond.code ({ cls := "GrownPost$LawReader", name := "readLine", desc := "()Z" } : Jvm.MethodName) prog_4_method_2_code (3 : Nat) (Option.some Jvm.ClassFile.FieldType.boolean)) ∈ zGW := zmem 750 (by decide +kernel) (by decide +kernel)
theorem q754 : (Jvm.Cond.code ({ cls := "GrownPost$Tokens", name := "takeKind", desc := "()I" } : Jvm.MethodName) prog_11_method_15_code (2 : Nat) (Option.some Jvm.ClassFile.FieldType.int)) ∈ zGW := zmem 754 (by decide +kernel) (by decide +kernel)
theorem q758 : (Jvm.Cond.code ({ cls := "GrownPost$Tokens", name := "countKinds", desc := "()I" } : Jvm.MethodName) prog_11_method_16_code (3 : Nat) (Option.some Jvm.ClassFile.FieldType.int)) ∈ zGW := zmem 758 (by decide +kernel) (by decide +kernel)
theorem q762 : (Jvm.Cond.code ({ cls := "GrownPost$Tokens", name := "kindIn", desc := "(I)I" } : Jvm.MethodName) prog_11_method_17_code (4 : Nat) (Option.some Jvm.ClassFile.FieldType.int)) ∈ zGW := zmem 762 (by decide +kernel) (by decide +kernel)
theorem q766 : (Jvm.Cond.code ({ cls := "GrownPost$Tokens", name := "fail", desc := "()Z" } : Jvm.MethodName) prog_11_method_12_code (1 : Nat) (Option.some Jvm.ClassFile.FieldType.boolean)) ∈ zGW := zmem 766 (by decide +kernel) (by decide +kernel)
theorem q770 : (Jvm.Cond.code ({ cls := "GrownPost$Tokens", name := "step", desc := "()V" } : Jvm.MethodName) prog_11_method_11_code (1 : Nat) (Option.none : Option Jvm.ClassFile.FieldType)) ∈ zGW := zmem 770 (by decide +kernel) (by decide +kernel)
theorem q774 : (Jvm.Cond.code ({ cls := "GrownPost$Tokens", name := "pass", desc := "(I)Z" } : Jvm.MethodName) prog_11_method_13_code (2 : Nat) (Option.some Jvm.ClassFile.FieldType.boolean)) ∈ zGW := zmem 774 (by decide +kernel) (by decide +kernel)
theorem q780 : (Jvm.Cond.code ({ cls := "GrownPost$LawReader", name := "readEither", desc := "(I)Z" } : Jvm.MethodName) prog_4_method_3_code (3 : Nat) (Option.some Jvm.ClassFile.FieldType.boolean)) ∈ zGW := zmem 780 (by decide +kernel) (by decide +kernel)
theorem q784 : (Jvm.Cond.code ({ cls := "GrownPost$LawReader", name := "readAll", desc := "(I)Z" } : Jvm.MethodName) prog_4_method_4_code (3 : Nat) (Option.some Jvm.ClassFile.FieldType.boolean)) ∈ zGW := zmem 784 (by decide +kernel) (by decide +kernel)
theorem q788 : (Jvm.Cond.code ({ cls := "GrownPost$LawReader", name := "readAtom", desc := "(I)Z" } : Jvm.MethodName) prog_4_method_5_code (4 : Nat) (Option.some Jvm.ClassFile.FieldType.boolean)) ∈ zGW := zmem 788 (by decide +kernel) (by decide +kernel)
theorem q792 : (Jvm.Cond.code ({ cls := "GrownPost$LawReader", name := "readInner", desc := "(II)Z" } : Jvm.MethodName) prog_4_method_6_code (3 : Nat) (Option.some Jvm.ClassFile.FieldType.boolean)) ∈ zGW := zmem 792 (by decide +kernel) (by decide +kernel)
theorem q796 : (Jvm.Cond.code ({ cls := "GrownPost$Law", name := "addCode", desc := "(I)V" } : Jvm.MethodName) prog_3_method_4_code (2 : Nat) (Option.none : Option Jvm.ClassFile.FieldType)) ∈ zGW := zmem 796 (by decide +kernel) (by decide +kernel)
theorem q801 : (Jvm.Cond.code ({ cls := "GrownPost$LawReader", name := "readSum", desc := "()Z" } : Jvm.MethodName) prog_4_method_7_code (3 : Nat) (Option.some Jvm.ClassFile.FieldType.boolean)) ∈ zGW := zmem 801 (by decide +kernel) (by decide +kernel)
theorem q805 : (Jvm.Cond.code ({ cls := "GrownPost$Law", name := "addLine", desc := "(II)V" } : Jvm.MethodName) prog_3_method_5_code (3 : Nat) (Option.none : Option Jvm.ClassFile.FieldType)) ∈ zGW := zmem 805 (by decide +kernel) (by decide +kernel)
theorem q808 : (Jvm.Cond.code ({ cls := "GrownPost$PostReader", name := "readLine", desc := "()Z" } : Jvm.MethodName) prog_7_method_2_code (1 : Nat) (Option.some Jvm.ClassFile.FieldType.boolean)) ∈ zGW := zmem 808 (by decide +kernel) (by decide +kernel)
theorem q813 : (Jvm.Cond.code ({ cls := "GrownPost$PostReader", name := "readLetter", desc := "()Z" } : Jvm.MethodName) prog_7_method_3_code (6 : Nat) (Option.some Jvm.ClassFile.FieldType.boolean)) ∈ zGW := zmem 813 (by decide +kernel) (by decide +kernel)
theorem q820 : (Jvm.Cond.code ({ cls := "GrownPost$Tokens", name := "takeNumber", desc := "(II)I" } : Jvm.MethodName) prog_11_method_14_code (4 : Nat) (Option.some Jvm.ClassFile.FieldType.int)) ∈ zGW := zmem 820 (by decide +kernel) (by decide +kernel)
theorem q825 : (Jvm.Cond.code ({ cls := "GrownPost$Mail", name := "begin", desc := "(II)V" } : Jvm.MethodName) prog_5_method_3_code (3 : Nat) (Option.none : Option Jvm.ClassFile.FieldType)) ∈ zGW := zmem 825 (by decide +kernel) (by decide +kernel)
theorem q831 : (Jvm.Cond.code ({ cls := "GrownPost$PostReader", name := "readWords", desc := "()Z" } : Jvm.MethodName) prog_7_method_4_code (3 : Nat) (Option.some Jvm.ClassFile.FieldType.boolean)) ∈ zGW := zmem 831 (by decide +kernel) (by decide +kernel)
theorem q836 : (Jvm.Cond.code ({ cls := "GrownPost$World", name := "setWords", desc := "(II)V" } : Jvm.MethodName) prog_12_method_3_code (3 : Nat) (Option.none : Option Jvm.ClassFile.FieldType)) ∈ zGW := zmem 836 (by decide +kernel) (by decide +kernel)
theorem q840 : (Jvm.Cond.code ({ cls := "GrownPost$PostReader", name := "readPromise", desc := "()Z" } : Jvm.MethodName) prog_7_method_5_code (3 : Nat) (Option.some Jvm.ClassFile.FieldType.boolean)) ∈ zGW := zmem 840 (by decide +kernel) (by decide +kernel)
theorem q844 : (Jvm.Cond.code ({ cls := "GrownPost$World", name := "addPromise", desc := "(II)V" } : Jvm.MethodName) prog_12_method_4_code (3 : Nat) (Option.none : Option Jvm.ClassFile.FieldType)) ∈ zGW := zmem 844 (by decide +kernel) (by decide +kernel)
theorem q848 : (Jvm.Cond.code ({ cls := "GrownPost$PostReader", name := "readSlip", desc := "()Z" } : Jvm.MethodName) prog_7_method_6_code (2 : Nat) (Option.some Jvm.ClassFile.FieldType.boolean)) ∈ zGW := zmem 848 (by decide +kernel) (by decide +kernel)
theorem q852 : (Jvm.Cond.code ({ cls := "GrownPost$PostReader", name := "readState", desc := "(Z)Z" } : Jvm.MethodName) prog_7_method_7_code (3 : Nat) (Option.some Jvm.ClassFile.FieldType.boolean)) ∈ zGW := zmem 852 (by decide +kernel) (by decide +kernel)
theorem q856 : (Jvm.Cond.code ({ cls := "GrownPost$PostReader", name := "readWeek", desc := "()Z" } : Jvm.MethodName) prog_7_method_8_code (2 : Nat) (Option.some Jvm.ClassFile.FieldType.boolean)) ∈ zGW := zmem 856 (by decide +kernel) (by decide +kernel)
theorem q862 : (Jvm.Cond.code ({ cls := "GrownPost", name := "endReading", desc := "(I)V" } : Jvm.MethodName) prog_1_method_56_code (2 : Nat) (Option.none : Option Jvm.ClassFile.FieldType)) ∈ zGW := zmem 862 (by decide +kernel) (by decide +kernel)
theorem q955 : (Jvm.Cond.code ({ cls := "GrownPost", name := "law", desc := "()I" } : Jvm.MethodName) prog_1_method_5_code (2 : Nat) (Option.some Jvm.ClassFile.FieldType.int)) ∈ zGW := zmem 955 (by decide +kernel) (by decide +kernel)
theorem q959 : (Jvm.Cond.code ({ cls := "GrownPost$Law", name := "clear", desc := "()V" } : Jvm.MethodName) prog_3_method_2_code (1 : Nat) (Option.none : Option Jvm.ClassFile.FieldType)) ∈ zGW := zmem 959 (by decide +kernel) (by decide +kernel)
theorem q973 : (Jvm.Cond.code ({ cls := "GrownPost", name := "letter", desc := "(II)I" } : Jvm.MethodName) prog_1_method_7_code (4 : Nat) (Option.some Jvm.ClassFile.FieldType.int)) ∈ zGW := zmem 973 (by decide +kernel) (by decide +kernel)
theorem q977 : (Jvm.Cond.code ({ cls := "GrownPost", name := "mailOf", desc := "(I)LGrownPost$Mail;" } : Jvm.MethodName) prog_1_method_58_code (2 : Nat) (Option.some (Jvm.ClassFile.FieldType.object "GrownPost$Mail"))) ∈ zGW := zmem 977 (by decide +kernel) (by decide +kernel)
theorem q981 : (Jvm.Cond.code ({ cls := "GrownPost", name := "needLetter", desc := "(I)V" } : Jvm.MethodName) prog_1_method_59_code (2 : Nat) (Option.none : Option Jvm.ClassFile.FieldType)) ∈ zGW := zmem 981 (by decide +kernel) (by decide +kernel)
theorem q1021 : (Jvm.Cond.code ({ cls := "GrownPost", name := "line", desc := "(IIZ)I" } : Jvm.MethodName) prog_1_method_8_code (5 : Nat) (Option.some Jvm.ClassFile.FieldType.int)) ∈ zGW := zmem 1021 (by decide +kernel) (by decide +kernel)
theorem q1024 : (Jvm.Cond.code ({ cls := "GrownPost", name := "needLine", desc := "(LGrownPost$Mail;I)V" } : Jvm.MethodName) prog_1_method_60_code (2 : Nat) (Option.none : Option Jvm.ClassFile.FieldType)) ∈ zGW := zmem 1024 (by decide +kernel) (by decide +kernel)
theorem q1029 : (Jvm.Cond.code ({ cls := "GrownPost$Mail", name := "weekAt", desc := "(I)I" } : Jvm.MethodName) prog_5_method_8_code (2 : Nat) (Option.some Jvm.ClassFile.FieldType.int)) ∈ zGW := zmem 1029 (by decide +kernel) (by decide +kernel)
theorem q1037 : (Jvm.Cond.code ({ cls := "GrownPost", name := "words", desc := "(I)I" } : Jvm.MethodName) prog_1_method_9_code (2 : Nat) (Option.some Jvm.ClassFile.FieldType.int)) ∈ zGW := zmem 1037 (by decide +kernel) (by decide +kernel)
theorem q1040 : (Jvm.Cond.code ({ cls := "GrownPost", name := "needKind", desc := "(I)V" } : Jvm.MethodName) prog_1_method_61_code (1 : Nat) (Option.none : Option Jvm.ClassFile.FieldType)) ∈ zGW := zmem 1040 (by decide +kernel) (by decide +kernel)
theorem q1049 : (Jvm.Cond.code ({ cls := "GrownPost", name := "promise", desc := "(IZ)I" } : Jvm.MethodName) prog_1_method_10_code (3 : Nat) (Option.some Jvm.ClassFile.FieldType.int)) ∈ zGW := zmem 1049 (by decide +kernel) (by decide +kernel)
theorem q1053 : (Jvm.Cond.code ({ cls := "GrownPost", name := "needPromise", desc := "(I)V" } : Jvm.MethodName) prog_1_method_62_code (2 : Nat) (Option.none : Option Jvm.ClassFile.FieldType)) ∈ zGW := zmem 1053 (by decide +kernel) (by decide +kernel)
theorem q1058 : (Jvm.Cond.code ({ cls := "GrownPost$World", name := "promised", desc := "(IZ)I" } : Jvm.MethodName) prog_12_method_5_code (3 : Nat) (Option.some Jvm.ClassFile.FieldType.int)) ∈ zGW := zmem 1058 (by decide +kernel) (by decide +kernel)
theorem q1065 : (Jvm.Cond.code ({ cls := "GrownPost", name := "season", desc := "(I)I" } : Jvm.MethodName) prog_1_method_11_code (2 : Nat) (Option.some Jvm.ClassFile.FieldType.int)) ∈ zGW := zmem 1065 (by decide +kernel) (by decide +kernel)
theorem q1074 : (Jvm.Cond.code ({ cls := "GrownPost", name := "write", desc := "(II)I" } : Jvm.MethodName) prog_1_method_12_code (6 : Nat) (Option.some Jvm.ClassFile.FieldType.int)) ∈ zGW := zmem 1074 (by decide +kernel) (by decide +kernel)
theorem q1078 : (Jvm.Cond.code ({ cls := "GrownPost", name := "areKinds", desc := "(I)Z" } : Jvm.MethodName) prog_1_method_57_code (3 : Nat) (Option.some Jvm.ClassFile.FieldType.boolean)) ∈ zGW := zmem 1078 (by decide +kernel) (by decide +kernel)
theorem q1081 : (Jvm.Cond.code ({ cls := "GrownPost", name := "isNoDigit", desc := "(I)Z" } : Jvm.MethodName) prog_1_method_64_code (1 : Nat) (Option.some Jvm.ClassFile.FieldType.boolean)) ∈ zGW := zmem 1081 (by decide +kernel) (by decide +kernel)
theorem q1087 : (Jvm.Cond.code ({ cls := "GrownPost$Memory", name := "remember", desc := "(LGrownPost$Bag;)V" } : Jvm.MethodName) prog_6_method_2_code (2 : Nat) (Option.none : Option Jvm.ClassFile.FieldType)) ∈ zGW := zmem 1087 (by decide +kernel) (by decide +kernel)
theorem q1097 : (Jvm.Cond.code ({ cls := "GrownPost", name := "open", desc := "(IZ)Z" } : Jvm.MethodName) prog_1_method_13_code (5 : Nat) (Option.some Jvm.ClassFile.FieldType.boolean)) ∈ zGW := zmem 1097 (by decide +kernel) (by decide +kernel)
theorem q1104 : (Jvm.Cond.code ({ cls := "GrownPost", name := "copy", desc := "(I)I" } : Jvm.MethodName) prog_1_method_14_code (4 : Nat) (Option.some Jvm.ClassFile.FieldType.int)) ∈ zGW := zmem 1104 (by decide +kernel) (by decide +kernel)
theorem q1112 : (Jvm.Cond.code ({ cls := "GrownPost", name := "prune", desc := "(II)I" } : Jvm.MethodName) prog_1_method_15_code (4 : Nat) (Option.some Jvm.ClassFile.FieldType.int)) ∈ zGW := zmem 1112 (by decide +kernel) (by decide +kernel)
theorem q1117 : (Jvm.Cond.code ({ cls := "GrownPost$Mail", name := "shorten", desc := "(I)V" } : Jvm.MethodName) prog_5_method_5_code (2 : Nat) (Option.none : Option Jvm.ClassFile.FieldType)) ∈ zGW := zmem 1117 (by decide +kernel) (by decide +kernel)
theorem q1125 : (Jvm.Cond.code ({ cls := "GrownPost", name := "cut", desc := "(II)I" } : Jvm.MethodName) prog_1_method_16_code (5 : Nat) (Option.some Jvm.ClassFile.FieldType.int)) ∈ zGW := zmem 1125 (by decide +kernel) (by decide +kernel)
theorem q1145 : (Jvm.Cond.code ({ cls := "GrownPost$Mail", name := "drop", desc := "(I)V" } : Jvm.MethodName) prog_5_method_6_code (3 : Nat) (Option.none : Option Jvm.ClassFile.FieldType)) ∈ zGW := zmem 1145 (by decide +kernel) (by decide +kernel)
theorem q1152 : (Jvm.Cond.code ({ cls := "GrownPost", name := "heat", desc := "(IZ)Z" } : Jvm.MethodName) prog_1_method_17_code (5 : Nat) (Option.some Jvm.ClassFile.FieldType.boolean)) ∈ zGW := zmem 1152 (by decide +kernel) (by decide +kernel)
theorem q1159 : (Jvm.Cond.code ({ cls := "GrownPost", name := "burn", desc := "(I)I" } : Jvm.MethodName) prog_1_method_18_code (2 : Nat) (Option.some Jvm.ClassFile.FieldType.int)) ∈ zGW := zmem 1159 (by decide +kernel) (by decide +kernel)
theorem q1163 : (Jvm.Cond.code ({ cls := "GrownPost$Bag", name := "drop", desc := "(I)V" } : Jvm.MethodName) prog_2_method_3_code (3 : Nat) (Option.none : Option Jvm.ClassFile.FieldType)) ∈ zGW := zmem 1163 (by decide +kernel) (by decide +kernel)
theorem q1170 : (Jvm.Cond.code ({ cls := "GrownPost", name := "weeks", desc := "(I)I" } : Jvm.MethodName) prog_1_method_19_code (4 : Nat) (Option.some Jvm.ClassFile.FieldType.int)) ∈ zGW := zmem 1170 (by decide +kernel) (by decide +kernel)
theorem q1175 : (Jvm.Cond.code ({ cls := "GrownPost$Bag", name := "passWeek", desc := "(LGrownPost$Law;I)I" } : Jvm.MethodName) prog_2_method_4_code (5 : Nat) (Option.some Jvm.ClassFile.FieldType.int)) ∈ zGW := zmem 1175 (by decide +kernel) (by decide +kernel)
theorem q1179 : (Jvm.Cond.code ({ cls := "GrownPost$Bag", name := "growOne", desc := "(LGrownPost$Mail;LGrownPost$Law;I)I" } : Jvm.MethodName) prog_2_method_5_code (5 : Nat) (Option.some Jvm.ClassFile.FieldType.int)) ∈ zGW := zmem 1179 (by decide +kernel) (by decide +kernel)
theorem q1184 : (Jvm.Cond.code ({ cls := "GrownPost$Bag", name := "draw", desc := "()I" } : Jvm.MethodName) prog_2_method_6_code (1 : Nat) (Option.some Jvm.ClassFile.FieldType.int)) ∈ zGW := zmem 1184 (by decide +kernel) (by decide +kernel)
theorem q1194 : (Jvm.Cond.code ({ cls := "GrownPost", name := "ahead", desc := "(III)I" } : Jvm.MethodName) prog_1_method_20_code (5 : Nat) (Option.some Jvm.ClassFile.FieldType.int)) ∈ zGW := zmem 1194 (by decide +kernel) (by decide +kernel)
theorem q1197 : (Jvm.Cond.code ({ cls := "GrownPost", name := "needAhead", desc := "(II)V" } : Jvm.MethodName) prog_1_method_63_code (2 : Nat) (Option.none : Option Jvm.ClassFile.FieldType)) ∈ zGW := zmem 1197 (by decide +kernel) (by decide +kernel)
theorem q1203 : (Jvm.Cond.code ({ cls := "GrownPost$Sight", name := "go", desc := "(LGrownPost$Law;I)V" } : Jvm.MethodName) prog_9_method_4_code (4 : Nat) (Option.none : Option Jvm.ClassFile.FieldType)) ∈ zGW := zmem 1203 (by decide +kernel) (by decide +kernel)
theorem q1211 : (Jvm.Cond.code ({ cls := "GrownPost", name := "says", desc := "(IIZ)I" } : Jvm.MethodName) prog_1_method_21_code (7 : Nat) (Option.some Jvm.ClassFile.FieldType.int)) ∈ zGW := zmem 1211 (by decide +kernel) (by decide +kernel)
theorem q1215 : (Jvm.Cond.code ({ cls := "GrownPost$Mail", name := "holds", desc := "(I)Z" } : Jvm.MethodName) prog_5_method_11_code (2 : Nat) (Option.some Jvm.ClassFile.FieldType.boolean)) ∈ zGW := zmem 1215 (by decide +kernel) (by decide +kernel)
theorem q1219 : (Jvm.Cond.code ({ cls := "GrownPost$Mail", name := "kindSet", desc := "()I" } : Jvm.MethodName) prog_5_method_10_code (3 : Nat) (Option.some Jvm.ClassFile.FieldType.int)) ∈ zGW := zmem 1219 (by decide +kernel) (by decide +kernel)
theorem q1226 : (Jvm.Cond.code ({ cls := "GrownPost", name := "stops", desc := "(I)I" } : Jvm.MethodName) prog_1_method_22_code (4 : Nat) (Option.some Jvm.ClassFile.FieldType.int)) ∈ zGW := zmem 1226 (by decide +kernel) (by decide +kernel)
theorem q1233 : (Jvm.Cond.code ({ cls := "GrownPost", name := "stays", desc := "(II)I" } : Jvm.MethodName) prog_1_method_23_code (6 : Nat) (Option.some Jvm.ClassFile.FieldType.int)) ∈ zGW := zmem 1233 (by decide +kernel) (by decide +kernel)
theorem q1240 : (Jvm.Cond.code ({ cls := "GrownPost", name := "send", desc := "(IIIIZ)I" } : Jvm.MethodName) prog_1_method_24_code (8 : Nat) (Option.some Jvm.ClassFile.FieldType.int)) ∈ zGW := zmem 1240 (by decide +kernel) (by decide +kernel)
theorem q1243 : (Jvm.Cond.code ({ cls := "GrownPost", name := "needDigit", desc := "(I)V" } : Jvm.MethodName) prog_1_method_65_code (1 : Nat) (Option.none : Option Jvm.ClassFile.FieldType)) ∈ zGW := zmem 1243 (by decide +kernel) (by decide +kernel)
theorem q1248 : (Jvm.Cond.code ({ cls := "GrownPost$Sight", name := "lookAtRow", desc := "(IIII)V" } : Jvm.MethodName) prog_9_method_3_code (5 : Nat) (Option.none : Option Jvm.ClassFile.FieldType)) ∈ zGW := zmem 1248 (by decide +kernel) (by decide +kernel)
theorem q1256 : (Jvm.Cond.code ({ cls := "GrownPost", name := "cuts", desc := "(IIIZ)I" } : Jvm.MethodName) prog_1_method_25_code (7 : Nat) (Option.some Jvm.ClassFile.FieldType.int)) ∈ zGW := zmem 1256 (by decide +kernel) (by decide +kernel)
theorem q1263 : (Jvm.Cond.code ({ cls := "GrownPost", name := "out", desc := "(IIIZ)I" } : Jvm.MethodName) prog_1_method_26_code (8 : Nat) (Option.some Jvm.ClassFile.FieldType.int)) ∈ zGW := zmem 1263 (by decide +kernel) (by decide +kernel)
theorem q1270 : (Jvm.Cond.code ({ cls := "GrownPost", name := "astray", desc := "(I)I" } : Jvm.MethodName) prog_1_method_27_code (2 : Nat) (Option.some Jvm.ClassFile.FieldType.int)) ∈ zGW := zmem 1270 (by decide +kernel) (by decide +kernel)
theorem q1274 : (Jvm.Cond.code ({ cls := "GrownPost$Law", name := "astrayIn", desc := "(LGrownPost$Mail;)I" } : Jvm.MethodName) prog_3_method_8_code (4 : Nat) (Option.some Jvm.ClassFile.FieldType.int)) ∈ zGW := zmem 1274 (by decide +kernel) (by decide +kernel)
theorem q1282 : (Jvm.Cond.code ({ cls := "GrownPost", name := "written", desc := "(I)I" } : Jvm.MethodName) prog_1_method_28_code (4 : Nat) (Option.some Jvm.ClassFile.FieldType.int)) ∈ zGW := zmem 1282 (by decide +kernel) (by decide +kernel)
theorem q1289 : (Jvm.Cond.code ({ cls := "GrownPost", name := "senseless", desc := "(I)I" } : Jvm.MethodName) prog_1_method_29_code (4 : Nat) (Option.some Jvm.ClassFile.FieldType.int)) ∈ zGW := zmem 1289 (by decide +kernel) (by decide +kernel)
theorem q1293 : (Jvm.Cond.code ({ cls := "GrownPost$Law", name := "leads", desc := "(II)Z" } : Jvm.MethodName) prog_3_method_6_code (4 : Nat) (Option.some Jvm.ClassFile.FieldType.boolean)) ∈ zGW := zmem 1293 (by decide +kernel) (by decide +kernel)
theorem q1300 : (Jvm.Cond.code ({ cls := "GrownPost", name := "meet", desc := "(IIZ)I" } : Jvm.MethodName) prog_1_method_30_code (8 : Nat) (Option.some Jvm.ClassFile.FieldType.int)) ∈ zGW := zmem 1300 (by decide +kernel) (by decide +kernel)
theorem q1303 : (Jvm.Cond.code ({ cls := "GrownPost", name := "needTwo", desc := "(II)V" } : Jvm.MethodName) prog_1_method_66_code (2 : Nat) (Option.none : Option Jvm.ClassFile.FieldType)) ∈ zGW := zmem 1303 (by decide +kernel) (by decide +kernel)
theorem q1308 : (Jvm.Cond.code ({ cls := "GrownPost$Mail", name := "firstUnlike", desc := "(LGrownPost$Mail;)I" } : Jvm.MethodName) prog_5_method_13_code (4 : Nat) (Option.some Jvm.ClassFile.FieldType.int)) ∈ zGW := zmem 1308 (by decide +kernel) (by decide +kernel)
theorem q1318 : (Jvm.Cond.code ({ cls := "GrownPost", name := "part", desc := "(II)I" } : Jvm.MethodName) prog_1_method_31_code (5 : Nat) (Option.some Jvm.ClassFile.FieldType.int)) ∈ zGW := zmem 1318 (by decide +kernel) (by decide +kernel)
theorem q1325 : (Jvm.Cond.code ({ cls := "GrownPost", name := "bound", desc := "(II)I" } : Jvm.MethodName) prog_1_method_33_code (4 : Nat) (Option.some Jvm.ClassFile.FieldType.int)) ∈ zGW := zmem 1325 (by decide +kernel) (by decide +kernel)
theorem q1329 : (Jvm.Cond.code ({ cls := "GrownPost$World", name := "binding", desc := "(LGrownPost$Mail;)I" } : Jvm.MethodName) prog_12_method_8_code (4 : Nat) (Option.some Jvm.ClassFile.FieldType.int)) ∈ zGW := zmem 1329 (by decide +kernel) (by decide +kernel)
theorem q1333 : (Jvm.Cond.code ({ cls := "GrownPost$Mail", name := "binds", desc := "(II)Z" } : Jvm.MethodName) prog_5_method_12_code (5 : Nat) (Option.some Jvm.ClassFile.FieldType.boolean)) ∈ zGW := zmem 1333 (by decide +kernel) (by decide +kernel)
theorem q1340 : (Jvm.Cond.code ({ cls := "GrownPost", name := "when", desc := "(II)I" } : Jvm.MethodName) prog_1_method_34_code (4 : Nat) (Option.some Jvm.ClassFile.FieldType.int)) ∈ zGW := zmem 1340 (by decide +kernel) (by decide +kernel)
theorem q1344 : (Jvm.Cond.code ({ cls := "GrownPost", name := "firstBinding", desc := "(LGrownPost$Mail;I)I" } : Jvm.MethodName) prog_1_method_70_code (4 : Nat) (Option.some Jvm.ClassFile.FieldType.int)) ∈ zGW := zmem 1344 (by decide +kernel) (by decide +kernel)
theorem q1351 : (Jvm.Cond.code ({ cls := "GrownPost", name := "soonest", desc := "(I)I" } : Jvm.MethodName) prog_1_method_35_code (6 : Nat) (Option.some Jvm.ClassFile.FieldType.int)) ∈ zGW := zmem 1351 (by decide +kernel) (by decide +kernel)
theorem q1358 : (Jvm.Cond.code ({ cls := "GrownPost", name := "guess", desc := "(I)I" } : Jvm.MethodName) prog_1_method_37_code (5 : Nat) (Option.some Jvm.ClassFile.FieldType.int)) ∈ zGW := zmem 1358 (by decide +kernel) (by decide +kernel)
theorem q1365 : (Jvm.Cond.code ({ cls := "GrownPost", name := "postage", desc := "(IIZ)I" } : Jvm.MethodName) prog_1_method_38_code (6 : Nat) (Option.some Jvm.ClassFile.FieldType.int)) ∈ zGW := zmem 1365 (by decide +kernel) (by decide +kernel)
theorem q1369 : (Jvm.Cond.code ({ cls := "GrownPost$World", name := "postageFor", desc := "(LGrownPost$Mail;)I" } : Jvm.MethodName) prog_12_method_9_code (2 : Nat) (Option.some Jvm.ClassFile.FieldType.int)) ∈ zGW := zmem 1369 (by decide +kernel) (by decide +kernel)
theorem q1374 : (Jvm.Cond.code ({ cls := "java/lang/Integer", name := "bitCount", desc := "(I)I" } : Jvm.MethodName) prog_22_method_49_code (1 : Nat) (Option.some Jvm.ClassFile.FieldType.int)) ∈ zGW := zmem 1374 (by decide +kernel) (by decide +kernel)
theorem q1384 : (Jvm.Cond.code ({ cls := "GrownPost", name := "forks", desc := "(II)I" } : Jvm.MethodName) prog_1_method_39_code (6 : Nat) (Option.some Jvm.ClassFile.FieldType.int)) ∈ zGW := zmem 1384 (by decide +kernel) (by decide +kernel)
theorem q1391 : (Jvm.Cond.code ({ cls := "GrownPost", name := "ripe", desc := "(IZ)I" } : Jvm.MethodName) prog_1_method_40_code (8 : Nat) (Option.some Jvm.ClassFile.FieldType.int)) ∈ zGW := zmem 1391 (by decide +kernel) (by decide +kernel)
theorem q1399 : (Jvm.Cond.code ({ cls := "GrownPost", name := "has", desc := "(I)I" } : Jvm.MethodName) prog_1_method_41_code (2 : Nat) (Option.some Jvm.ClassFile.FieldType.int)) ∈ zGW := zmem 1399 (by decide +kernel) (by decide +kernel)
theorem q1407 : (Jvm.Cond.code ({ cls := "GrownPost", name := "echo", desc := "(I)I" } : Jvm.MethodName) prog_1_method_42_code (6 : Nat) (Option.some Jvm.ClassFile.FieldType.int)) ∈ zGW := zmem 1407 (by decide +kernel) (by decide +kernel)
theorem q1411 : (Jvm.Cond.code ({ cls := "GrownPost$Mail", name := "alikeFrom", desc := "(ILGrownPost$Mail;I)I" } : Jvm.MethodName) prog_5_method_14_code (6 : Nat) (Option.some Jvm.ClassFile.FieldType.int)) ∈ zGW := zmem 1411 (by decide +kernel) (by decide +kernel)
theorem q1419 : (Jvm.Cond.code ({ cls := "GrownPost", name := "common", desc := "(II)I" } : Jvm.MethodName) prog_1_method_43_code (8 : Nat) (Option.some Jvm.ClassFile.FieldType.int)) ∈ zGW := zmem 1419 (by decide +kernel) (by decide +kernel)
theorem q1426 : (Jvm.Cond.code ({ cls := "GrownPost", name := "author", desc := "(IZ)I" } : Jvm.MethodName) prog_1_method_44_code (7 : Nat) (Option.some Jvm.ClassFile.FieldType.int)) ∈ zGW := zmem 1426 (by decide +kernel) (by decide +kernel)
theorem q1433 : (Jvm.Cond.code ({ cls := "GrownPost", name := "shelves", desc := "(IIZ)I" } : Jvm.MethodName) prog_1_method_45_code (5 : Nat) (Option.some Jvm.ClassFile.FieldType.int)) ∈ zGW := zmem 1433 (by decide +kernel) (by decide +kernel)
theorem q1438 : (Jvm.Cond.code ({ cls := "GrownPost$Shelving", name := "clear", desc := "()V" } : Jvm.MethodName) prog_8_method_2_code (1 : Nat) (Option.none : Option Jvm.ClassFile.FieldType)) ∈ zGW := zmem 1438 (by decide +kernel) (by decide +kernel)
theorem q1442 : (Jvm.Cond.code ({ cls := "GrownPost$Shelving", name := "add", desc := "(I)V" } : Jvm.MethodName) prog_8_method_3_code (4 : Nat) (Option.none : Option Jvm.ClassFile.FieldType)) ∈ zGW := zmem 1442 (by decide +kernel) (by decide +kernel)
theorem q1446 : (Jvm.Cond.code ({ cls := "GrownPost$Shelving", name := "mostOnOne", desc := "(I)I" } : Jvm.MethodName) prog_8_method_4_code (4 : Nat) (Option.some Jvm.ClassFile.FieldType.int)) ∈ zGW := zmem 1446 (by decide +kernel) (by decide +kernel)
theorem q1452 : (Jvm.Cond.code ({ cls := "GrownPost$Shelving", name := "fewestShelves", desc := "(I)I" } : Jvm.MethodName) prog_8_method_5_code (7 : Nat) (Option.some Jvm.ClassFile.FieldType.int)) ∈ zGW := zmem 1452 (by decide +kernel) (by decide +kernel)
theorem q1459 : (Jvm.Cond.code ({ cls := "GrownPost", name := "tempers", desc := "(III)I" } : Jvm.MethodName) prog_1_method_46_code (7 : Nat) (Option.some Jvm.ClassFile.FieldType.int)) ∈ zGW := zmem 1459 (by decide +kernel) (by decide +kernel)
theorem q1463 : (Jvm.Cond.code ({ cls := "GrownPost", name := "tallyTempers", desc := "(LGrownPost$Mail;I)V" } : Jvm.MethodName) prog_1_method_71_code (5 : Nat) (Option.none : Option Jvm.ClassFile.FieldType)) ∈ zGW := zmem 1463 (by decide +kernel) (by decide +kernel)
theorem q1470 : (Jvm.Cond.code ({ cls := "GrownPost", name := "trial", desc := "(II)I" } : Jvm.MethodName) prog_1_method_47_code (3 : Nat) (Option.some Jvm.ClassFile.FieldType.int)) ∈ zGW := zmem 1470 (by decide +kernel) (by decide +kernel)
theorem q1474 : (Jvm.Cond.code ({ cls := "GrownPost", name := "tryWeeks", desc := "(II)V" } : Jvm.MethodName) prog_1_method_72_code (4 : Nat) (Option.none : Option Jvm.ClassFile.FieldType)) ∈ zGW := zmem 1474 (by decide +kernel) (by decide +kernel)
theorem q1482 : (Jvm.Cond.code ({ cls := "GrownPost", name := "span", desc := "(IZ)I" } : Jvm.MethodName) prog_1_method_48_code (7 : Nat) (Option.some Jvm.ClassFile.FieldType.int)) ∈ zGW := zmem 1482 (by decide +kernel) (by decide +kernel)
theorem q1487 : (Jvm.Cond.code ({ cls := "GrownPostModel", name := "thrown", desc := "()I" } : Jvm.MethodName) prog_14_method_1_code (1 : Nat) (Option.some Jvm.ClassFile.FieldType.int)) ∈ zGW := zmem 1487 (by decide +kernel) (by decide +kernel)
theorem q1588 : (Jvm.Cond.code ({ cls := "GrownPostModel", name := "image", desc := "()V" } : Jvm.MethodName) prog_14_method_6_code (2 : Nat) (Option.none : Option Jvm.ClassFile.FieldType)) ∈ zGW := zmem 1588 (by decide +kernel) (by decide +kernel)
theorem q1592 : (Jvm.Cond.code ({ cls := "GrownPostModel", name := "back", desc := "()Z" } : Jvm.MethodName) prog_14_method_7_code (2 : Nat) (Option.some Jvm.ClassFile.FieldType.boolean)) ∈ zGW := zmem 1592 (by decide +kernel) (by decide +kernel)
theorem q1596 : (Jvm.Cond.code ({ cls := "GrownPostModel", name := "undo", desc := "()Z" } : Jvm.MethodName) prog_14_method_9_code (2 : Nat) (Option.some Jvm.ClassFile.FieldType.boolean)) ∈ zGW := zmem 1596 (by decide +kernel) (by decide +kernel)
theorem q1600 : (Jvm.Cond.code ({ cls := "GrownPostModel", name := "feed", desc := "(IIIII)I" } : Jvm.MethodName) prog_14_method_24_code (7 : Nat) (Option.some Jvm.ClassFile.FieldType.int)) ∈ zGW := zmem 1600 (by decide +kernel) (by decide +kernel)
theorem q1604 : (Jvm.Cond.code ({ cls := "GrownPostModel", name := "end", desc := "(I)Z" } : Jvm.MethodName) prog_14_method_25_code (2 : Nat) (Option.some Jvm.ClassFile.FieldType.boolean)) ∈ zGW := zmem 1604 (by decide +kernel) (by decide +kernel)
theorem q1608 : (Jvm.Cond.code ({ cls := "GrownPostModel", name := "fault", desc := "()I" } : Jvm.MethodName) prog_14_method_37_code (1 : Nat) (Option.some Jvm.ClassFile.FieldType.int)) ∈ zGW := zmem 1608 (by decide +kernel) (by decide +kernel)
theorem q1612 : (Jvm.Cond.code ({ cls := "GrownPostModel", name := "post", desc := "()I" } : Jvm.MethodName) prog_14_method_57_code (3 : Nat) (Option.some Jvm.ClassFile.FieldType.int)) ∈ zGW := zmem 1612 (by decide +kernel) (by decide +kernel)
theorem q1616 : (Jvm.Cond.code ({ cls := "GrownPostModel", name := "readAll", desc := "(Z)I" } : Jvm.MethodName) prog_14_method_56_code (3 : Nat) (Option.some Jvm.ClassFile.FieldType.int)) ∈ zGW := zmem 1616 (by decide +kernel) (by decide +kernel)
theorem q1620 : (Jvm.Cond.code ({ cls := "GrownPostModel", name := "uses", desc := "()V" } : Jvm.MethodName) prog_14_method_38_code (1 : Nat) (Option.none : Option Jvm.ClassFile.FieldType)) ∈ zGW := zmem 1620 (by decide +kernel) (by decide +kernel)
theorem q1624 : (Jvm.Cond.code ({ cls := "GrownPostModel", name := "blanks", desc := "()V" } : Jvm.MethodName) prog_14_method_27_code (1 : Nat) (Option.none : Option Jvm.ClassFile.FieldType)) ∈ zGW := zmem 1624 (by decide +kernel) (by decide +kernel)
theorem q1628 : (Jvm.Cond.code ({ cls := "GrownPostModel", name := "isAt", desc := "(II)Z" } : Jvm.MethodName) prog_14_method_26_code (3 : Nat) (Option.some Jvm.ClassFile.FieldType.boolean)) ∈ zGW := zmem 1628 (by decide +kernel) (by decide +kernel)
theorem q1632 : (Jvm.Cond.code ({ cls := "GrownPostModel", name := "readLine", desc := "(ZI)Z" } : Jvm.MethodName) prog_14_method_55_code (3 : Nat) (Option.some Jvm.ClassFile.FieldType.boolean)) ∈ zGW := zmem 1632 (by decide +kernel) (by decide +kernel)
theorem q1636 : (Jvm.Cond.code ({ cls := "GrownPostModel", name := "lettersPass", desc := "()V" } : Jvm.MethodName) prog_14_method_28_code (1 : Nat) (Option.none : Option Jvm.ClassFile.FieldType)) ∈ zGW := zmem 1636 (by decide +kernel) (by decide +kernel)
theorem q1640 : (Jvm.Cond.code ({ cls := "GrownPostModel", name := "readPostLine", desc := "()Z" } : Jvm.MethodName) prog_14_method_46_code (1 : Nat) (Option.some Jvm.ClassFile.FieldType.boolean)) ∈ zGW := zmem 1640 (by decide +kernel) (by decide +kernel)
theorem q1645 : (Jvm.Cond.code ({ cls := "GrownPostModel", name := "isWord", desc := "(Ljava/lang/String;)Z" } : Jvm.MethodName) prog_14_method_29_code (4 : Nat) (Option.some Jvm.ClassFile.FieldType.boolean)) ∈ zGW := zmem 1645 (by decide +kernel) (by decide +kernel)
theorem q1651 : (Jvm.Cond.code ({ cls := "GrownPostModel", name := "readLetter", desc := "()Z" } : Jvm.MethodName) prog_14_method_41_code (5 : Nat) (Option.some Jvm.ClassFile.FieldType.boolean)) ∈ zGW := zmem 1651 (by decide +kernel) (by decide +kernel)
theorem q1655 : (Jvm.Cond.code ({ cls := "GrownPostModel", name := "letters", desc := "()I" } : Jvm.MethodName) prog_14_method_10_code (1 : Nat) (Option.some Jvm.ClassFile.FieldType.int)) ∈ zGW := zmem 1655 (by decide +kernel) (by decide +kernel)
theorem q1660 : (Jvm.Cond.code ({ cls := "GrownPostModel", name := "after", desc := "(Ljava/lang/String;II)I" } : Jvm.MethodName) prog_14_method_33_code (4 : Nat) (Option.some Jvm.ClassFile.FieldType.int)) ∈ zGW := zmem 1660 (by decide +kernel) (by decide +kernel)
theorem q1664 : (Jvm.Cond.code ({ cls := "GrownPostModel", name := "number", desc := "(II)I" } : Jvm.MethodName) prog_14_method_32_code (4 : Nat) (Option.some Jvm.ClassFile.FieldType.int)) ∈ zGW := zmem 1664 (by decide +kernel) (by decide +kernel)
theorem q1668 : (Jvm.Cond.code ({ cls := "GrownPostModel", name := "in", desc := "(III)Z" } : Jvm.MethodName) prog_14_method_3_code (3 : Nat) (Option.some Jvm.ClassFile.FieldType.boolean)) ∈ zGW := zmem 1668 (by decide +kernel) (by decide +kernel)
theorem q1672 : (Jvm.Cond.code ({ cls := "GrownPostModel", name := "begins", desc := "(II)I" } : Jvm.MethodName) prog_14_method_39_code (5 : Nat) (Option.some Jvm.ClassFile.FieldType.int)) ∈ zGW := zmem 1672 (by decide +kernel) (by decide +kernel)
theorem q1675 : (Jvm.Cond.code ({ cls := "GrownPostModel", name := "at", desc := "(II)I" } : Jvm.MethodName) prog_14_method_12_code (2 : Nat) (Option.some Jvm.ClassFile.FieldType.int)) ∈ zGW := zmem 1675 (by decide +kernel) (by decide +kernel)
theorem q1678 : (Jvm.Cond.code ({ cls := "GrownPostModel", name := "kindBy", desc := "(I)I" } : Jvm.MethodName) prog_14_method_34_code (1 : Nat) (Option.some Jvm.ClassFile.FieldType.int)) ∈ zGW := zmem 1678 (by decide +kernel) (by decide +kernel)
theorem q1682 : (Jvm.Cond.code ({ cls := "GrownPostModel", name := "comes", desc := "(II)V" } : Jvm.MethodName) prog_14_method_40_code (4 : Nat) (Option.none : Option Jvm.ClassFile.FieldType)) ∈ zGW := zmem 1682 (by decide +kernel) (by decide +kernel)
theorem q1686 : (Jvm.Cond.code ({ cls := "GrownPostModel", name := "lines", desc := "(I)I" } : Jvm.MethodName) prog_14_method_14_code (2 : Nat) (Option.some Jvm.ClassFile.FieldType.int)) ∈ zGW := zmem 1686 (by decide +kernel) (by decide +kernel)
theorem q1690 : (Jvm.Cond.code ({ cls := "GrownPostModel", name := "of", desc := "(II)I" } : Jvm.MethodName) prog_14_method_13_code (3 : Nat) (Option.some Jvm.ClassFile.FieldType.int)) ∈ zGW := zmem 1690 (by decide +kernel) (by decide +kernel)
theorem q1695 : (Jvm.Cond.code ({ cls := "GrownPostModel", name := "readWords", desc := "()Z" } : Jvm.MethodName) prog_14_method_42_code (3 : Nat) (Option.some Jvm.ClassFile.FieldType.boolean)) ∈ zGW := zmem 1695 (by decide +kernel) (by decide +kernel)
theorem q1699 : (Jvm.Cond.code ({ cls := "GrownPostModel", name := "kindNext", desc := "()I" } : Jvm.MethodName) prog_14_method_36_code (1 : Nat) (Option.some Jvm.ClassFile.FieldType.int)) ∈ zGW := zmem 1699 (by decide +kernel) (by decide +kernel)
theorem q1703 : (Jvm.Cond.code ({ cls := "GrownPostModel", name := "kindTold", desc := "()I" } : Jvm.MethodName) prog_14_method_35_code (1 : Nat) (Option.some Jvm.ClassFile.FieldType.int)) ∈ zGW := zmem 1703 (by decide +kernel) (by decide +kernel)
theorem q1708 : (Jvm.Cond.code ({ cls := "GrownPostModel", name := "readPromise", desc := "()Z" } : Jvm.MethodName) prog_14_method_43_code (4 : Nat) (Option.some Jvm.ClassFile.FieldType.boolean)) ∈ zGW := zmem 1708 (by decide +kernel) (by decide +kernel)
theorem q1712 : (Jvm.Cond.code ({ cls := "GrownPostModel", name := "promises", desc := "()I" } : Jvm.MethodName) prog_14_method_11_code (1 : Nat) (Option.some Jvm.ClassFile.FieldType.int)) ∈ zGW := zmem 1712 (by decide +kernel) (by decide +kernel)
theorem q1717 : (Jvm.Cond.code ({ cls := "GrownPostModel", name := "readNumber", desc := "(III)Z" } : Jvm.MethodName) prog_14_method_45_code (5 : Nat) (Option.some Jvm.ClassFile.FieldType.boolean)) ∈ zGW := zmem 1717 (by decide +kernel) (by decide +kernel)
theorem q1722 : (Jvm.Cond.code ({ cls := "GrownPostModel", name := "readOf", desc := "(I)Z" } : Jvm.MethodName) prog_14_method_44_code (3 : Nat) (Option.some Jvm.ClassFile.FieldType.boolean)) ∈ zGW := zmem 1722 (by decide +kernel) (by decide +kernel)
theorem q1728 : (Jvm.Cond.code ({ cls := "GrownPostModel", name := "readLawLine", desc := "(I)Z" } : Jvm.MethodName) prog_14_method_54_code (3 : Nat) (Option.some Jvm.ClassFile.FieldType.boolean)) ∈ zGW := zmem 1728 (by decide +kernel) (by decide +kernel)
theorem q1734 : (Jvm.Cond.code ({ cls := "GrownPostModel", name := "passes", desc := "(Ljava/lang/String;)Z" } : Jvm.MethodName) prog_14_method_30_code (2 : Nat) (Option.some Jvm.ClassFile.FieldType.boolean)) ∈ zGW := zmem 1734 (by decide +kernel) (by decide +kernel)
theorem q1738 : (Jvm.Cond.code ({ cls := "GrownPostModel", name := "readCond", desc := "()Z" } : Jvm.MethodName) prog_14_method_53_code (1 : Nat) (Option.some Jvm.ClassFile.FieldType.boolean)) ∈ zGW := zmem 1738 (by decide +kernel) (by decide +kernel)
theorem q1742 : (Jvm.Cond.code ({ cls := "GrownPostModel", name := "readAllOf", desc := "()Z" } : Jvm.MethodName) prog_14_method_52_code (1 : Nat) (Option.some Jvm.ClassFile.FieldType.boolean)) ∈ zGW := zmem 1742 (by decide +kernel) (by decide +kernel)
theorem q1746 : (Jvm.Cond.code ({ cls := "GrownPostModel", name := "readAtom", desc := "()Z" } : Jvm.MethodName) prog_14_method_51_code (2 : Nat) (Option.some Jvm.ClassFile.FieldType.boolean)) ∈ zGW := zmem 1746 (by decide +kernel) (by decide +kernel)
theorem q1750 : (Jvm.Cond.code ({ cls := "GrownPostModel", name := "sign", desc := "(I)Z" } : Jvm.MethodName) prog_14_method_31_code (2 : Nat) (Option.some Jvm.ClassFile.FieldType.boolean)) ∈ zGW := zmem 1750 (by decide +kernel) (by decide +kernel)
theorem q1755 : (Jvm.Cond.code ({ cls := "GrownPostModel", name := "emits", desc := "(II)V" } : Jvm.MethodName) prog_14_method_47_code (3 : Nat) (Option.none : Option Jvm.ClassFile.FieldType)) ∈ zGW := zmem 1755 (by decide +kernel) (by decide +kernel)
theorem q1759 : (Jvm.Cond.code ({ cls := "GrownPostModel", name := "readTag", desc := "()Z" } : Jvm.MethodName) prog_14_method_50_code (2 : Nat) (Option.some Jvm.ClassFile.FieldType.boolean)) ∈ zGW := zmem 1759 (by decide +kernel) (by decide +kernel)
theorem q1764 : (Jvm.Cond.code ({ cls := "GrownPostModel", name := "readSum", desc := "()Z" } : Jvm.MethodName) prog_14_method_49_code (1 : Nat) (Option.some Jvm.ClassFile.FieldType.boolean)) ∈ zGW := zmem 1764 (by decide +kernel) (by decide +kernel)
theorem q1768 : (Jvm.Cond.code ({ cls := "GrownPostModel", name := "readPart", desc := "()Z" } : Jvm.MethodName) prog_14_method_48_code (2 : Nat) (Option.some Jvm.ClassFile.FieldType.boolean)) ∈ zGW := zmem 1768 (by decide +kernel) (by decide +kernel)
theorem q1778 : (Jvm.Cond.code ({ cls := "GrownPostModel", name := "throwsIf", desc := "(ZI)Z" } : Jvm.MethodName) prog_14_method_2_code (3 : Nat) (Option.some Jvm.ClassFile.FieldType.boolean)) ∈ zGW := zmem 1778 (by decide +kernel) (by decide +kernel)
theorem q1782 : (Jvm.Cond.code ({ cls := "GrownPostModel", name := "law", desc := "()I" } : Jvm.MethodName) prog_14_method_58_code (3 : Nat) (Option.some Jvm.ClassFile.FieldType.int)) ∈ zGW := zmem 1782 (by decide +kernel) (by decide +kernel)
theorem q1786 : (Jvm.Cond.code ({ cls := "GrownPostModel", name := "letter", desc := "(II)I" } : Jvm.MethodName) prog_14_method_74_code (3 : Nat) (Option.some Jvm.ClassFile.FieldType.int)) ∈ zGW := zmem 1786 (by decide +kernel) (by decide +kernel)
theorem q1790 : (Jvm.Cond.code ({ cls := "GrownPostModel", name := "noLetter", desc := "(I)Z" } : Jvm.MethodName) prog_14_method_17_code (2 : Nat) (Option.some Jvm.ClassFile.FieldType.boolean)) ∈ zGW := zmem 1790 (by decide +kernel) (by decide +kernel)
theorem q1794 : (Jvm.Cond.code ({ cls := "GrownPostModel", name := "looksAt", desc := "(I)V" } : Jvm.MethodName) prog_14_method_66_code (3 : Nat) (Option.none : Option Jvm.ClassFile.FieldType)) ∈ zGW := zmem 1794 (by decide +kernel) (by decide +kernel)
theorem q1798 : (Jvm.Cond.code ({ cls := "GrownPostModel", name := "kindOf", desc := "(II)I" } : Jvm.MethodName) prog_14_method_15_code (3 : Nat) (Option.some Jvm.ClassFile.FieldType.int)) ∈ zGW := zmem 1798 (by decide +kernel) (by decide +kernel)
theorem q1802 : (Jvm.Cond.code ({ cls := "GrownPostModel", name := "isOpen", desc := "(I)Z" } : Jvm.MethodName) prog_14_method_16_code (2 : Nat) (Option.some Jvm.ClassFile.FieldType.boolean)) ∈ zGW := zmem 1802 (by decide +kernel) (by decide +kernel)
theorem q1806 : (Jvm.Cond.code ({ cls := "GrownPostModel", name := "wordsNow", desc := "()I" } : Jvm.MethodName) prog_14_method_73_code (3 : Nat) (Option.some Jvm.ClassFile.FieldType.int)) ∈ zGW := zmem 1806 (by decide +kernel) (by decide +kernel)
theorem q1810 : (Jvm.Cond.code ({ cls := "GrownPostModel", name := "last", desc := "()I" } : Jvm.MethodName) prog_14_method_72_code (1 : Nat) (Option.some Jvm.ClassFile.FieldType.int)) ∈ zGW := zmem 1810 (by decide +kernel) (by decide +kernel)
theorem q1814 : (Jvm.Cond.code ({ cls := "GrownPostModel", name := "canGrow", desc := "()Z" } : Jvm.MethodName) prog_14_method_67_code (1 : Nat) (Option.some Jvm.ClassFile.FieldType.boolean)) ∈ zGW := zmem 1814 (by decide +kernel) (by decide +kernel)
theorem q1818 : (Jvm.Cond.code ({ cls := "GrownPostModel", name := "follows", desc := "()I" } : Jvm.MethodName) prog_14_method_65_code (2 : Nat) (Option.some Jvm.ClassFile.FieldType.int)) ∈ zGW := zmem 1818 (by decide +kernel) (by decide +kernel)
theorem q1822 : (Jvm.Cond.code ({ cls := "GrownPostModel", name := "lawLines", desc := "()I" } : Jvm.MethodName) prog_14_method_62_code (1 : Nat) (Option.some Jvm.ClassFile.FieldType.int)) ∈ zGW := zmem 1822 (by decide +kernel) (by decide +kernel)
theorem q1826 : (Jvm.Cond.code ({ cls := "GrownPostModel", name := "lawFrom", desc := "(I)I" } : Jvm.MethodName) prog_14_method_63_code (2 : Nat) (Option.some Jvm.ClassFile.FieldType.int)) ∈ zGW := zmem 1826 (by decide +kernel) (by decide +kernel)
theorem q1830 : (Jvm.Cond.code ({ cls := "GrownPostModel", name := "holdsLine", desc := "(I)Z" } : Jvm.MethodName) prog_14_method_61_code (9 : Nat) (Option.some Jvm.ClassFile.FieldType.boolean)) ∈ zGW := zmem 1830 (by decide +kernel) (by decide +kernel)
theorem q1834 : (Jvm.Cond.code ({ cls := "GrownPostModel", name := "factOf", desc := "(II)I" } : Jvm.MethodName) prog_14_method_60_code (3 : Nat) (Option.some Jvm.ClassFile.FieldType.int)) ∈ zGW := zmem 1834 (by decide +kernel) (by decide +kernel)
theorem q1837 : (Jvm.Cond.code ({ cls := "GrownPostModel", name := "seasonOf", desc := "(I)I" } : Jvm.MethodName) prog_14_method_59_code (1 : Nat) (Option.some Jvm.ClassFile.FieldType.int)) ∈ zGW := zmem 1837 (by decide +kernel) (by decide +kernel)
theorem q1841 : (Jvm.Cond.code ({ cls := "GrownPostModel", name := "lawTo", desc := "(I)I" } : Jvm.MethodName) prog_14_method_64_code (2 : Nat) (Option.some Jvm.ClassFile.FieldType.int)) ∈ zGW := zmem 1841 (by decide +kernel) (by decide +kernel)
theorem q1845 : (Jvm.Cond.code ({ cls := "GrownPostModel", name := "line", desc := "(IIZ)I" } : Jvm.MethodName) prog_14_method_75_code (4 : Nat) (Option.some Jvm.ClassFile.FieldType.int)) ∈ zGW := zmem 1845 (by decide +kernel) (by decide +kernel)
theorem q1849 : (Jvm.Cond.code ({ cls := "GrownPostModel", name := "noLine", desc := "(II)Z" } : Jvm.MethodName) prog_14_method_18_code (3 : Nat) (Option.some Jvm.ClassFile.FieldType.boolean)) ∈ zGW := zmem 1849 (by decide +kernel) (by decide +kernel)
theorem q1853 : (Jvm.Cond.code ({ cls := "GrownPostModel", name := "words", desc := "(I)I" } : Jvm.MethodName) prog_14_method_76_code (2 : Nat) (Option.some Jvm.ClassFile.FieldType.int)) ∈ zGW := zmem 1853 (by decide +kernel) (by decide +kernel)
theorem q1856 : (Jvm.Cond.code ({ cls := "GrownPostModel", name := "noKind", desc := "(I)Z" } : Jvm.MethodName) prog_14_method_20_code (1 : Nat) (Option.some Jvm.ClassFile.FieldType.boolean)) ∈ zGW := zmem 1856 (by decide +kernel) (by decide +kernel)
theorem q1860 : (Jvm.Cond.code ({ cls := "GrownPostModel", name := "promise", desc := "(IZ)I" } : Jvm.MethodName) prog_14_method_78_code (3 : Nat) (Option.some Jvm.ClassFile.FieldType.int)) ∈ zGW := zmem 1860 (by decide +kernel) (by decide +kernel)
theorem q1864 : (Jvm.Cond.code ({ cls := "GrownPostModel", name := "noPromise", desc := "(I)Z" } : Jvm.MethodName) prog_14_method_19_code (2 : Nat) (Option.some Jvm.ClassFile.FieldType.boolean)) ∈ zGW := zmem 1864 (by decide +kernel) (by decide +kernel)
theorem q1868 : (Jvm.Cond.code ({ cls := "GrownPostModel", name := "ofPromise", desc := "(IZ)I" } : Jvm.MethodName) prog_14_method_77_code (3 : Nat) (Option.some Jvm.ClassFile.FieldType.int)) ∈ zGW := zmem 1868 (by decide +kernel) (by decide +kernel)
theorem q1872 : (Jvm.Cond.code ({ cls := "GrownPostModel", name := "season", desc := "(I)I" } : Jvm.MethodName) prog_14_method_79_code (2 : Nat) (Option.some Jvm.ClassFile.FieldType.int)) ∈ zGW := zmem 1872 (by decide +kernel) (by decide +kernel)
theorem q1876 : (Jvm.Cond.code ({ cls := "GrownPostModel", name := "write", desc := "(II)I" } : Jvm.MethodName) prog_14_method_80_code (6 : Nat) (Option.some Jvm.ClassFile.FieldType.int)) ∈ zGW := zmem 1876 (by decide +kernel) (by decide +kernel)
theorem q1879 : (Jvm.Cond.code ({ cls := "GrownPostModel", name := "noSender", desc := "(II)Z" } : Jvm.MethodName) prog_14_method_22_code (2 : Nat) (Option.some Jvm.ClassFile.FieldType.boolean)) ∈ zGW := zmem 1879 (by decide +kernel) (by decide +kernel)
theorem q1883 : (Jvm.Cond.code ({ cls := "GrownPostModel", name := "remembers", desc := "()V" } : Jvm.MethodName) prog_14_method_8_code (2 : Nat) (Option.none : Option Jvm.ClassFile.FieldType)) ∈ zGW := zmem 1883 (by decide +kernel) (by decide +kernel)
theorem q1887 : (Jvm.Cond.code ({ cls := "GrownPostModel", name := "open", desc := "(IZ)Z" } : Jvm.MethodName) prog_14_method_82_code (3 : Nat) (Option.some Jvm.ClassFile.FieldType.boolean)) ∈ zGW := zmem 1887 (by decide +kernel) (by decide +kernel)
theorem q1891 : (Jvm.Cond.code ({ cls := "GrownPostModel", name := "turns", desc := "(IIZ)Z" } : Jvm.MethodName) prog_14_method_81_code (5 : Nat) (Option.some Jvm.ClassFile.FieldType.boolean)) ∈ zGW := zmem 1891 (by decide +kernel) (by decide +kernel)
theorem q1895 : (Jvm.Cond.code ({ cls := "GrownPostModel", name := "heat", desc := "(IZ)Z" } : Jvm.MethodName) prog_14_method_83_code (3 : Nat) (Option.some Jvm.ClassFile.FieldType.boolean)) ∈ zGW := zmem 1895 (by decide +kernel) (by decide +kernel)
theorem q1899 : (Jvm.Cond.code ({ cls := "GrownPostModel", name := "copy", desc := "(I)I" } : Jvm.MethodName) prog_14_method_84_code (4 : Nat) (Option.some Jvm.ClassFile.FieldType.int)) ∈ zGW := zmem 1899 (by decide +kernel) (by decide +kernel)
theorem q1903 : (Jvm.Cond.code ({ cls := "GrownPostModel", name := "prune", desc := "(II)I" } : Jvm.MethodName) prog_14_method_85_code (3 : Nat) (Option.some Jvm.ClassFile.FieldType.int)) ∈ zGW := zmem 1903 (by decide +kernel) (by decide +kernel)
theorem q1907 : (Jvm.Cond.code ({ cls := "GrownPostModel", name := "cut", desc := "(II)I" } : Jvm.MethodName) prog_14_method_86_code (5 : Nat) (Option.some Jvm.ClassFile.FieldType.int)) ∈ zGW := zmem 1907 (by decide +kernel) (by decide +kernel)
theorem q1911 : (Jvm.Cond.code ({ cls := "GrownPostModel", name := "burn", desc := "(I)I" } : Jvm.MethodName) prog_14_method_87_code (3 : Nat) (Option.some Jvm.ClassFile.FieldType.int)) ∈ zGW := zmem 1911 (by decide +kernel) (by decide +kernel)
theorem q1915 : (Jvm.Cond.code ({ cls := "GrownPostModel", name := "weeks", desc := "(I)I" } : Jvm.MethodName) prog_14_method_90_code (4 : Nat) (Option.some Jvm.ClassFile.FieldType.int)) ∈ zGW := zmem 1915 (by decide +kernel) (by decide +kernel)
theorem q1919 : (Jvm.Cond.code ({ cls := "GrownPostModel", name := "oneWeek", desc := "()I" } : Jvm.MethodName) prog_14_method_89_code (3 : Nat) (Option.some Jvm.ClassFile.FieldType.int)) ∈ zGW := zmem 1919 (by decide +kernel) (by decide +kernel)
theorem q1923 : (Jvm.Cond.code ({ cls := "GrownPostModel", name := "grows", desc := "(I)I" } : Jvm.MethodName) prog_14_method_88_code (3 : Nat) (Option.some Jvm.ClassFile.FieldType.int)) ∈ zGW := zmem 1923 (by decide +kernel) (by decide +kernel)
theorem q1927 : (Jvm.Cond.code ({ cls := "GrownPostModel", name := "draw", desc := "(I)I" } : Jvm.MethodName) prog_14_method_23_code (2 : Nat) (Option.some Jvm.ClassFile.FieldType.int)) ∈ zGW := zmem 1927 (by decide +kernel) (by decide +kernel)
theorem q1933 : (Jvm.Cond.code ({ cls := "GrownPostModel", name := "ahead", desc := "(III)I" } : Jvm.MethodName) prog_14_method_91_code (4 : Nat) (Option.some Jvm.ClassFile.FieldType.int)) ∈ zGW := zmem 1933 (by decide +kernel) (by decide +kernel)
theorem q1936 : (Jvm.Cond.code ({ cls := "GrownPostModel", name := "noAhead", desc := "(I)Z" } : Jvm.MethodName) prog_14_method_21_code (1 : Nat) (Option.some Jvm.ClassFile.FieldType.boolean)) ∈ zGW := zmem 1936 (by decide +kernel) (by decide +kernel)
theorem q1940 : (Jvm.Cond.code ({ cls := "GrownPostModel", name := "looksAhead", desc := "(II)V" } : Jvm.MethodName) prog_14_method_71_code (3 : Nat) (Option.none : Option Jvm.ClassFile.FieldType)) ∈ zGW := zmem 1940 (by decide +kernel) (by decide +kernel)
theorem q1944 : (Jvm.Cond.code ({ cls := "GrownPostModel", name := "goesFor", desc := "(I)V" } : Jvm.MethodName) prog_14_method_70_code (3 : Nat) (Option.none : Option Jvm.ClassFile.FieldType)) ∈ zGW := zmem 1944 (by decide +kernel) (by decide +kernel)
theorem q1948 : (Jvm.Cond.code ({ cls := "GrownPostModel", name := "goesOn", desc := "()V" } : Jvm.MethodName) prog_14_method_69_code (1 : Nat) (Option.none : Option Jvm.ClassFile.FieldType)) ∈ zGW := zmem 1948 (by decide +kernel) (by decide +kernel)
theorem q1952 : (Jvm.Cond.code ({ cls := "GrownPostModel", name := "growsOnce", desc := "()V" } : Jvm.MethodName) prog_14_method_68_code (1 : Nat) (Option.none : Option Jvm.ClassFile.FieldType)) ∈ zGW := zmem 1952 (by decide +kernel) (by decide +kernel)
theorem q1956 : (Jvm.Cond.code ({ cls := "GrownPostModel", name := "says", desc := "(IIZ)I" } : Jvm.MethodName) prog_14_method_94_code (4 : Nat) (Option.some Jvm.ClassFile.FieldType.int)) ∈ zGW := zmem 1956 (by decide +kernel) (by decide +kernel)
theorem q1960 : (Jvm.Cond.code ({ cls := "GrownPostModel", name := "saysBy", desc := "(IIZ)I" } : Jvm.MethodName) prog_14_method_93_code (5 : Nat) (Option.some Jvm.ClassFile.FieldType.int)) ∈ zGW := zmem 1960 (by decide +kernel) (by decide +kernel)
theorem q1964 : (Jvm.Cond.code ({ cls := "GrownPostModel", name := "holdsKind", desc := "(I)Z" } : Jvm.MethodName) prog_14_method_92_code (4 : Nat) (Option.some Jvm.ClassFile.FieldType.boolean)) ∈ zGW := zmem 1964 (by decide +kernel) (by decide +kernel)
theorem q1968 : (Jvm.Cond.code ({ cls := "GrownPostModel", name := "stops", desc := "(I)I" } : Jvm.MethodName) prog_14_method_95_code (3 : Nat) (Option.some Jvm.ClassFile.FieldType.int)) ∈ zGW := zmem 1968 (by decide +kernel) (by decide +kernel)
theorem q1972 : (Jvm.Cond.code ({ cls := "GrownPostModel", name := "stays", desc := "(II)I" } : Jvm.MethodName) prog_14_method_96_code (5 : Nat) (Option.some Jvm.ClassFile.FieldType.int)) ∈ zGW := zmem 1972 (by decide +kernel) (by decide +kernel)
theorem q1976 : (Jvm.Cond.code ({ cls := "GrownPostModel", name := "send", desc := "(IIIIZ)I" } : Jvm.MethodName) prog_14_method_98_code (9 : Nat) (Option.some Jvm.ClassFile.FieldType.int)) ∈ zGW := zmem 1976 (by decide +kernel) (by decide +kernel)
theorem q1980 : (Jvm.Cond.code ({ cls := "GrownPostModel", name := "leads", desc := "(IIIII)Z" } : Jvm.MethodName) prog_14_method_97_code (6 : Nat) (Option.some Jvm.ClassFile.FieldType.boolean)) ∈ zGW := zmem 1980 (by decide +kernel) (by decide +kernel)
theorem q1984 : (Jvm.Cond.code ({ cls := "GrownPostModel", name := "cuts", desc := "(IIIZ)I" } : Jvm.MethodName) prog_14_method_99_code (6 : Nat) (Option.some Jvm.ClassFile.FieldType.int)) ∈ zGW := zmem 1984 (by decide +kernel) (by decide +kernel)
theorem q1988 : (Jvm.Cond.code ({ cls := "GrownPostModel", name := "out", desc := "(IIIZ)I" } : Jvm.MethodName) prog_14_method_100_code (8 : Nat) (Option.some Jvm.ClassFile.FieldType.int)) ∈ zGW := zmem 1988 (by decide +kernel) (by decide +kernel)
theorem q1992 : (Jvm.Cond.code ({ cls := "GrownPostModel", name := "astray", desc := "(I)I" } : Jvm.MethodName) prog_14_method_102_code (2 : Nat) (Option.some Jvm.ClassFile.FieldType.int)) ∈ zGW := zmem 1992 (by decide +kernel) (by decide +kernel)
theorem q1996 : (Jvm.Cond.code ({ cls := "GrownPostModel", name := "astrayOf", desc := "(I)I" } : Jvm.MethodName) prog_14_method_101_code (5 : Nat) (Option.some Jvm.ClassFile.FieldType.int)) ∈ zGW := zmem 1996 (by decide +kernel) (by decide +kernel)
theorem q2000 : (Jvm.Cond.code ({ cls := "GrownPostModel", name := "written", desc := "(I)I" } : Jvm.MethodName) prog_14_method_103_code (3 : Nat) (Option.some Jvm.ClassFile.FieldType.int)) ∈ zGW := zmem 2000 (by decide +kernel) (by decide +kernel)
theorem q2003 : (Jvm.Cond.code ({ cls := "java/lang/Integer", name := "numberOfLeadingZeros", desc := "(I)I" } : Jvm.MethodName) prog_22_method_47_code (2 : Nat) (Option.some Jvm.ClassFile.FieldType.int)) ∈ zGW := zmem 2003 (by decide +kernel) (by decide +kernel)
theorem q2008 : (Jvm.Cond.code ({ cls := "GrownPostModel", name := "senseless", desc := "(I)I" } : Jvm.MethodName) prog_14_method_105_code (3 : Nat) (Option.some Jvm.ClassFile.FieldType.int)) ∈ zGW := zmem 2008 (by decide +kernel) (by decide +kernel)
theorem q2012 : (Jvm.Cond.code ({ cls := "GrownPostModel", name := "hasSense", desc := "(II)Z" } : Jvm.MethodName) prog_14_method_104_code (5 : Nat) (Option.some Jvm.ClassFile.FieldType.boolean)) ∈ zGW := zmem 2012 (by decide +kernel) (by decide +kernel)
theorem q2016 : (Jvm.Cond.code ({ cls := "GrownPostModel", name := "author", desc := "(IZ)I" } : Jvm.MethodName) prog_14_method_106_code (7 : Nat) (Option.some Jvm.ClassFile.FieldType.int)) ∈ zGW := zmem 2016 (by decide +kernel) (by decide +kernel)
theorem q2021 : (Jvm.Cond.code ({ cls := "GrownPostModel", name := "meet", desc := "(IIZ)I" } : Jvm.MethodName) prog_14_method_110_code (4 : Nat) (Option.some Jvm.ClassFile.FieldType.int)) ∈ zGW := zmem 2021 (by decide +kernel) (by decide +kernel)
theorem q2025 : (Jvm.Cond.code ({ cls := "GrownPostModel", name := "meetOf", desc := "(IIZ)I" } : Jvm.MethodName) prog_14_method_109_code (5 : Nat) (Option.some Jvm.ClassFile.FieldType.int)) ∈ zGW := zmem 2025 (by decide +kernel) (by decide +kernel)
theorem q2029 : (Jvm.Cond.code ({ cls := "GrownPostModel", name := "growsAll", desc := "(I)V" } : Jvm.MethodName) prog_14_method_107_code (3 : Nat) (Option.none : Option Jvm.ClassFile.FieldType)) ∈ zGW := zmem 2029 (by decide +kernel) (by decide +kernel)
theorem q2033 : (Jvm.Cond.code ({ cls := "GrownPostModel", name := "isMet", desc := "(IZ)Z" } : Jvm.MethodName) prog_14_method_108_code (5 : Nat) (Option.some Jvm.ClassFile.FieldType.boolean)) ∈ zGW := zmem 2033 (by decide +kernel) (by decide +kernel)
theorem q2037 : (Jvm.Cond.code ({ cls := "GrownPostModel", name := "part", desc := "(II)I" } : Jvm.MethodName) prog_14_method_111_code (5 : Nat) (Option.some Jvm.ClassFile.FieldType.int)) ∈ zGW := zmem 2037 (by decide +kernel) (by decide +kernel)
theorem q2041 : (Jvm.Cond.code ({ cls := "GrownPostModel", name := "drawer", desc := "()I" } : Jvm.MethodName) prog_14_method_112_code (6 : Nat) (Option.some Jvm.ClassFile.FieldType.int)) ∈ zGW := zmem 2041 (by decide +kernel) (by decide +kernel)
theorem q2045 : (Jvm.Cond.code ({ cls := "GrownPostModel", name := "common", desc := "(II)I" } : Jvm.MethodName) prog_14_method_114_code (6 : Nat) (Option.some Jvm.ClassFile.FieldType.int)) ∈ zGW := zmem 2045 (by decide +kernel) (by decide +kernel)
theorem q2049 : (Jvm.Cond.code ({ cls := "GrownPostModel", name := "alikeFrom", desc := "(IIII)I" } : Jvm.MethodName) prog_14_method_113_code (6 : Nat) (Option.some Jvm.ClassFile.FieldType.int)) ∈ zGW := zmem 2049 (by decide +kernel) (by decide +kernel)
theorem q2054 : (Jvm.Cond.code ({ cls := "GrownPostModel", name := "echo", desc := "(I)I" } : Jvm.MethodName) prog_14_method_115_code (5 : Nat) (Option.some Jvm.ClassFile.FieldType.int)) ∈ zGW := zmem 2054 (by decide +kernel) (by decide +kernel)
theorem q2058 : (Jvm.Cond.code ({ cls := "GrownPostModel", name := "has", desc := "(I)I" } : Jvm.MethodName) prog_14_method_116_code (4 : Nat) (Option.some Jvm.ClassFile.FieldType.int)) ∈ zGW := zmem 2058 (by decide +kernel) (by decide +kernel)
theorem q2062 : (Jvm.Cond.code ({ cls := "GrownPostModel", name := "bound", desc := "(II)I" } : Jvm.MethodName) prog_14_method_119_code (3 : Nat) (Option.some Jvm.ClassFile.FieldType.int)) ∈ zGW := zmem 2062 (by decide +kernel) (by decide +kernel)
theorem q2066 : (Jvm.Cond.code ({ cls := "GrownPostModel", name := "boundNow", desc := "()I" } : Jvm.MethodName) prog_14_method_118_code (3 : Nat) (Option.some Jvm.ClassFile.FieldType.int)) ∈ zGW := zmem 2066 (by decide +kernel) (by decide +kernel)
theorem q2070 : (Jvm.Cond.code ({ cls := "GrownPostModel", name := "isBound", desc := "(I)Z" } : Jvm.MethodName) prog_14_method_117_code (5 : Nat) (Option.some Jvm.ClassFile.FieldType.boolean)) ∈ zGW := zmem 2070 (by decide +kernel) (by decide +kernel)
theorem q2074 : (Jvm.Cond.code ({ cls := "GrownPostModel", name := "when", desc := "(II)I" } : Jvm.MethodName) prog_14_method_121_code (3 : Nat) (Option.some Jvm.ClassFile.FieldType.int)) ∈ zGW := zmem 2074 (by decide +kernel) (by decide +kernel)
theorem q2078 : (Jvm.Cond.code ({ cls := "GrownPostModel", name := "whenOf", desc := "(II)I" } : Jvm.MethodName) prog_14_method_120_code (4 : Nat) (Option.some Jvm.ClassFile.FieldType.int)) ∈ zGW := zmem 2078 (by decide +kernel) (by decide +kernel)
theorem q2082 : (Jvm.Cond.code ({ cls := "GrownPostModel", name := "soonest", desc := "(I)I" } : Jvm.MethodName) prog_14_method_122_code (6 : Nat) (Option.some Jvm.ClassFile.FieldType.int)) ∈ zGW := zmem 2082 (by decide +kernel) (by decide +kernel)
theorem q2086 : (Jvm.Cond.code ({ cls := "GrownPostModel", name := "ripe", desc := "(IZ)I" } : Jvm.MethodName) prog_14_method_123_code (7 : Nat) (Option.some Jvm.ClassFile.FieldType.int)) ∈ zGW := zmem 2086 (by decide +kernel) (by decide +kernel)
theorem q2090 : (Jvm.Cond.code ({ cls := "GrownPostModel", name := "spies", desc := "(I)I" } : Jvm.MethodName) prog_14_method_124_code (4 : Nat) (Option.some Jvm.ClassFile.FieldType.int)) ∈ zGW := zmem 2090 (by decide +kernel) (by decide +kernel)
theorem q2094 : (Jvm.Cond.code ({ cls := "GrownPostModel", name := "guess", desc := "(I)I" } : Jvm.MethodName) prog_14_method_125_code (4 : Nat) (Option.some Jvm.ClassFile.FieldType.int)) ∈ zGW := zmem 2094 (by decide +kernel) (by decide +kernel)
theorem q2098 : (Jvm.Cond.code ({ cls := "GrownPostModel", name := "postage", desc := "(IIZ)I" } : Jvm.MethodName) prog_14_method_127_code (4 : Nat) (Option.some Jvm.ClassFile.FieldType.int)) ∈ zGW := zmem 2098 (by decide +kernel) (by decide +kernel)
theorem q2102 : (Jvm.Cond.code ({ cls := "GrownPostModel", name := "postageOf", desc := "(II)I" } : Jvm.MethodName) prog_14_method_126_code (3 : Nat) (Option.some Jvm.ClassFile.FieldType.int)) ∈ zGW := zmem 2102 (by decide +kernel) (by decide +kernel)
theorem q2106 : (Jvm.Cond.code ({ cls := "GrownPostModel", name := "forks", desc := "(II)I" } : Jvm.MethodName) prog_14_method_129_code (5 : Nat) (Option.some Jvm.ClassFile.FieldType.int)) ∈ zGW := zmem 2106 (by decide +kernel) (by decide +kernel)
theorem q2110 : (Jvm.Cond.code ({ cls := "GrownPostModel", name := "forkOf", desc := "(III)I" } : Jvm.MethodName) prog_14_method_128_code (7 : Nat) (Option.some Jvm.ClassFile.FieldType.int)) ∈ zGW := zmem 2110 (by decide +kernel) (by decide +kernel)
theorem q2114 : (Jvm.Cond.code ({ cls := "GrownPostModel", name := "shelves", desc := "(IIZ)I" } : Jvm.MethodName) prog_14_method_132_code (6 : Nat) (Option.some Jvm.ClassFile.FieldType.int)) ∈ zGW := zmem 2114 (by decide +kernel) (by decide +kernel)
theorem q2118 : (Jvm.Cond.code ({ cls := "GrownPostModel", name := "fewestOf", desc := "(II)I" } : Jvm.MethodName) prog_14_method_131_code (5 : Nat) (Option.some Jvm.ClassFile.FieldType.int)) ∈ zGW := zmem 2118 (by decide +kernel) (by decide +kernel)
theorem q2122 : (Jvm.Cond.code ({ cls := "GrownPostModel", name := "lengthOf", desc := "(I)I" } : Jvm.MethodName) prog_14_method_130_code (4 : Nat) (Option.some Jvm.ClassFile.FieldType.int)) ∈ zGW := zmem 2122 (by decide +kernel) (by decide +kernel)
theorem q2125 : (Jvm.Cond.code ({ cls := "GrownPostModel", name := "hasBit", desc := "(II)Z" } : Jvm.MethodName) prog_14_method_4_code (2 : Nat) (Option.some Jvm.ClassFile.FieldType.boolean)) ∈ zGW := zmem 2125 (by decide +kernel) (by decide +kernel)
theorem q2129 : (Jvm.Cond.code ({ cls := "GrownPostModel", name := "tempers", desc := "(III)I" } : Jvm.MethodName) prog_14_method_133_code (6 : Nat) (Option.some Jvm.ClassFile.FieldType.int)) ∈ zGW := zmem 2129 (by decide +kernel) (by decide +kernel)
theorem q2133 : (Jvm.Cond.code ({ cls := "GrownPostModel", name := "trial", desc := "(II)I" } : Jvm.MethodName) prog_14_method_137_code (4 : Nat) (Option.some Jvm.ClassFile.FieldType.int)) ∈ zGW := zmem 2133 (by decide +kernel) (by decide +kernel)
theorem q2137 : (Jvm.Cond.code ({ cls := "GrownPostModel", name := "keepsAll", desc := "()V" } : Jvm.MethodName) prog_14_method_135_code (2 : Nat) (Option.none : Option Jvm.ClassFile.FieldType)) ∈ zGW := zmem 2137 (by decide +kernel) (by decide +kernel)
theorem q2141 : (Jvm.Cond.code ({ cls := "GrownPostModel", name := "allLines", desc := "()I" } : Jvm.MethodName) prog_14_method_134_code (3 : Nat) (Option.some Jvm.ClassFile.FieldType.int)) ∈ zGW := zmem 2141 (by decide +kernel) (by decide +kernel)
theorem q2145 : (Jvm.Cond.code ({ cls := "GrownPostModel", name := "bringsBack", desc := "()V" } : Jvm.MethodName) prog_14_method_136_code (2 : Nat) (Option.none : Option Jvm.ClassFile.FieldType)) ∈ zGW := zmem 2145 (by decide +kernel) (by decide +kernel)
theorem q2149 : (Jvm.Cond.code ({ cls := "GrownPostModel", name := "span", desc := "(IZ)I" } : Jvm.MethodName) prog_14_method_138_code (6 : Nat) (Option.some Jvm.ClassFile.FieldType.int)) ∈ zGW := zmem 2149 (by decide +kernel) (by decide +kernel)
theorem q2153 : (Jvm.Cond.code ({ cls := "GrownPostModel", name := "latest", desc := "(I)I" } : Jvm.MethodName) prog_14_method_140_code (4 : Nat) (Option.some Jvm.ClassFile.FieldType.int)) ∈ zGW := zmem 2153 (by decide +kernel) (by decide +kernel)
theorem q2157 : (Jvm.Cond.code ({ cls := "GrownPostModel", name := "cameIn", desc := "(II)I" } : Jvm.MethodName) prog_14_method_139_code (5 : Nat) (Option.some Jvm.ClassFile.FieldType.int)) ∈ zGW := zmem 2157 (by decide +kernel) (by decide +kernel)
theorem q2161 : (Jvm.Cond.code ({ cls := "GrownPostModel", name := "seed", desc := "(I)I" } : Jvm.MethodName) prog_14_method_141_code (3 : Nat) (Option.some Jvm.ClassFile.FieldType.int)) ∈ zGW := zmem 2161 (by decide +kernel) (by decide +kernel)
theorem q2165 : (Jvm.Cond.code ({ cls := "GrownPostModel", name := "count", desc := "(I)I" } : Jvm.MethodName) prog_14_method_143_code (2 : Nat) (Option.some Jvm.ClassFile.FieldType.int)) ∈ zGW := zmem 2165 (by decide +kernel) (by decide +kernel)
theorem q2169 : (Jvm.Cond.code ({ cls := "GrownPostModel", name := "those", desc := "(I)I" } : Jvm.MethodName) prog_14_method_142_code (4 : Nat) (Option.some Jvm.ClassFile.FieldType.int)) ∈ zGW := zmem 2169 (by decide +kernel) (by decide +kernel)
theorem qn171 : (Jvm.Cond.fieldLinkNest "GrownPost$World" (63 : Nat) "GrownPost$Mail" "kinds" "[I" "GrownPost") ∈ zNW := znmem 171 (by decide +kernel) (by decide +kernel)
theorem qn174 : (Jvm.Cond.fieldLinkNest "GrownPost$World" (58 : Nat) "GrownPost$Mail" "lines" "I" "GrownPost") ∈ zNW := znmem 174 (by decide +kernel) (by decide +kernel)
theorem qn175 : (Jvm.Cond.fieldLinkNest "GrownPost$Law" (52 : Nat) "GrownPost$Mail" "lines" "I" "GrownPost") ∈ zNW := znmem 175 (by decide +kernel) (by decide +kernel)
theorem qn176 : (Jvm.Cond.fieldLinkNest "GrownPost" (157 : Nat) "GrownPost$Mail" "lines" "I" "GrownPost") ∈ zNW := znmem 176 (by decide +kernel) (by decide +kernel)
theorem qn177 : (Jvm.Cond.fieldLinkNest "GrownPost$Bag" (67 : Nat) "GrownPost$Mail" "lines" "I" "GrownPost") ∈ zNW := znmem 177 (by decide +kernel) (by decide +kernel)
theorem qn179 : (Jvm.Cond.fieldLinkNest "GrownPost" (162 : Nat) "GrownPost$Mail" "temper" "I" "GrownPost") ∈ zNW := znmem 179 (by decide +kernel) (by decide +kernel)
theorem qn180 : (Jvm.Cond.fieldLinkNest "GrownPost$Law" (80 : Nat) "GrownPost$Mail" "temper" "I" "GrownPost") ∈ zNW := znmem 180 (by decide +kernel) (by decide +kernel)
theorem qn182 : (Jvm.Cond.fieldLinkNest "GrownPost" (165 : Nat) "GrownPost$Mail" "sender" "I" "GrownPost") ∈ zNW := znmem 182 (by decide +kernel) (by decide +kernel)
theorem qn183 : (Jvm.Cond.fieldLinkNest "GrownPost$Law" (83 : Nat) "GrownPost$Mail" "sender" "I" "GrownPost") ∈ zNW := znmem 183 (by decide +kernel) (by decide +kernel)
theorem qn185 : (Jvm.Cond.fieldLinkNest "GrownPost$Law" (47 : Nat) "GrownPost$Mail" "open" "Z" "GrownPost") ∈ zNW := znmem 185 (by decide +kernel) (by decide +kernel)
theorem qn186 : (Jvm.Cond.fieldLinkNest "GrownPost" (168 : Nat) "GrownPost$Mail" "open" "Z" "GrownPost") ∈ zNW := znmem 186 (by decide +kernel) (by decide +kernel)
theorem qn187 : (Jvm.Cond.fieldLinkNest "GrownPost$PostReader" (114 : Nat) "GrownPost$Mail" "open" "Z" "GrownPost") ∈ zNW := znmem 187 (by decide +kernel) (by decide +kernel)
theorem qn188 : (Jvm.Cond.fieldLinkNest "GrownPost$Bag" (70 : Nat) "GrownPost$Mail" "open" "Z" "GrownPost") ∈ zNW := znmem 188 (by decide +kernel) (by decide +kernel)
theorem qn190 : (Jvm.Cond.fieldLinkNest "GrownPost$Bag" (39 : Nat) "GrownPost$Mail" "hot" "Z" "GrownPost") ∈ zNW := znmem 190 (by decide +kernel) (by decide +kernel)
theorem qn191 : (Jvm.Cond.fieldLinkNest "GrownPost$Sight" (40 : Nat) "GrownPost$Mail" "hot" "Z" "GrownPost") ∈ zNW := znmem 191 (by decide +kernel) (by decide +kernel)
theorem qn192 : (Jvm.Cond.fieldLinkNest "GrownPost$PostReader" (110 : Nat) "GrownPost$Mail" "hot" "Z" "GrownPost") ∈ zNW := znmem 192 (by decide +kernel) (by decide +kernel)
theorem qn193 : (Jvm.Cond.fieldLinkNest "GrownPost" (171 : Nat) "GrownPost$Mail" "hot" "Z" "GrownPost") ∈ zNW := znmem 193 (by decide +kernel) (by decide +kernel)
theorem qn194 : (Jvm.Cond.fieldLinkNest "GrownPost$Law" (77 : Nat) "GrownPost$Mail" "hot" "Z" "GrownPost") ∈ zNW := znmem 194 (by decide +kernel) (by decide +kernel)
theorem qn212 : (Jvm.Cond.fieldLinkNest "GrownPost$PostReader" (75 : Nat) "GrownPost$Bag" "mails" "[LGrownPost$Mail;" "GrownPost") ∈ zNW := znmem 212 (by decide +kernel) (by decide +kernel)
theorem qn213 : (Jvm.Cond.fieldLinkNest "GrownPost" (242 : Nat) "GrownPost$Bag" "mails" "[LGrownPost$Mail;" "GrownPost") ∈ zNW := znmem 213 (by decide +kernel) (by decide +kernel)
theorem qn215 : (Jvm.Cond.fieldLinkNest "GrownPost$PostReader" (55 : Nat) "GrownPost$Bag" "size" "I" "GrownPost") ∈ zNW := znmem 215 (by decide +kernel) (by decide +kernel)
theorem qn216 : (Jvm.Cond.fieldLinkNest "GrownPost" (235 : Nat) "GrownPost$Bag" "size" "I" "GrownPost") ∈ zNW := znmem 216 (by decide +kernel) (by decide +kernel)
theorem qn218 : (Jvm.Cond.fieldLinkNest "GrownPost$PostReader" (89 : Nat) "GrownPost$Bag" "week" "I" "GrownPost") ∈ zNW := znmem 218 (by decide +kernel) (by decide +kernel)
theorem qn219 : (Jvm.Cond.fieldLinkNest "GrownPost" (185 : Nat) "GrownPost$Bag" "week" "I" "GrownPost") ∈ zNW := znmem 219 (by decide +kernel) (by decide +kernel)
theorem qn221 : (Jvm.Cond.fieldLinkNest "GrownPost" (381 : Nat) "GrownPost$Bag" "seed" "I" "GrownPost") ∈ zNW := znmem 221 (by decide +kernel) (by decide +kernel)
theorem qn223 : (Jvm.Cond.fieldLinkNest "GrownPost" (282 : Nat) "GrownPost$Bag" "came" "I" "GrownPost") ∈ zNW := znmem 223 (by decide +kernel) (by decide +kernel)
theorem qn249 : (Jvm.Cond.fieldLinkNest "GrownPost" (150 : Nat) "GrownPost$Law" "size" "I" "GrownPost") ∈ zNW := znmem 249 (by decide +kernel) (by decide +kernel)
theorem qn251 : (Jvm.Cond.fieldLinkNest "GrownPost" (140 : Nat) "GrownPost$Law" "told" "Z" "GrownPost") ∈ zNW := znmem 251 (by decide +kernel) (by decide +kernel)
theorem qn272 : (Jvm.Cond.fieldLinkNest "GrownPost$PostReader" (51 : Nat) "GrownPost$World" "bag" "LGrownPost$Bag;" "GrownPost") ∈ zNW := znmem 272 (by decide +kernel) (by decide +kernel)
theorem qn273 : (Jvm.Cond.fieldLinkNest "GrownPost" (182 : Nat) "GrownPost$World" "bag" "LGrownPost$Bag;" "GrownPost") ∈ zNW := znmem 273 (by decide +kernel) (by decide +kernel)
theorem qn275 : (Jvm.Cond.fieldLinkNest "GrownPost" (144 : Nat) "GrownPost$World" "law" "LGrownPost$Law;" "GrownPost") ∈ zNW := znmem 275 (by decide +kernel) (by decide +kernel)
theorem qn280 : (Jvm.Cond.fieldLinkNest "GrownPost$PostReader" (101 : Nat) "GrownPost$World" "promises" "I" "GrownPost") ∈ zNW := znmem 280 (by decide +kernel) (by decide +kernel)
theorem qn281 : (Jvm.Cond.fieldLinkNest "GrownPost" (403 : Nat) "GrownPost$World" "promises" "I" "GrownPost") ∈ zNW := znmem 281 (by decide +kernel) (by decide +kernel)
theorem qn283 : (Jvm.Cond.fieldLinkNest "GrownPost$PostReader" (107 : Nat) "GrownPost$World" "slip" "I" "GrownPost") ∈ zNW := znmem 283 (by decide +kernel) (by decide +kernel)
theorem qn284 : (Jvm.Cond.fieldLinkNest "GrownPost" (275 : Nat) "GrownPost$World" "slip" "I" "GrownPost") ∈ zNW := znmem 284 (by decide +kernel) (by decide +kernel)
theorem qn286 : (Jvm.Cond.fieldLinkNest "GrownPost" (117 : Nat) "GrownPost$World" "texts" "I" "GrownPost") ∈ zNW := znmem 286 (by decide +kernel) (by decide +kernel)
theorem qn316 : (Jvm.Cond.fieldLinkNest "GrownPost" (412 : Nat) "GrownPost$Memory" "size" "I" "GrownPost") ∈ zNW := znmem 316 (by decide +kernel) (by decide +kernel)
theorem qn347 : (Jvm.Cond.fieldLinkNest "GrownPost" (102 : Nat) "GrownPost$Tokens" "wrong" "I" "GrownPost") ∈ zNW := znmem 347 (by decide +kernel) (by decide +kernel)
theorem qn368 : (Jvm.Cond.fieldLinkNest "GrownPost" (87 : Nat) "GrownPost$PostReader" "draft" "LGrownPost$World;" "GrownPost") ∈ zNW := znmem 368 (by decide +kernel) (by decide +kernel)
theorem qn390 : (Jvm.Cond.fieldLinkNest "GrownPost" (128 : Nat) "GrownPost$LawReader" "draft" "LGrownPost$Law;" "GrownPost") ∈ zNW := znmem 390 (by decide +kernel) (by decide +kernel)
theorem qn404 : (Jvm.Cond.fieldLinkNest "GrownPost" (297 : Nat) "GrownPost$Sight" "mail" "LGrownPost$Mail;" "GrownPost") ∈ zNW := znmem 404 (by decide +kernel) (by decide +kernel)
theorem qn406 : (Jvm.Cond.fieldLinkNest "GrownPost" (307 : Nat) "GrownPost$Sight" "week" "I" "GrownPost") ∈ zNW := znmem 406 (by decide +kernel) (by decide +kernel)
theorem qn408 : (Jvm.Cond.fieldLinkNest "GrownPost" (347 : Nat) "GrownPost$Sight" "fork" "I" "GrownPost") ∈ zNW := znmem 408 (by decide +kernel) (by decide +kernel)
theorem qn542 : (Jvm.Cond.methodLinkNest "GrownPost$Law" (74 : Nat) ({ cls := "GrownPost", name := "seasonOf", desc := "(I)I" } : Jvm.MethodName) "GrownPost") ∈ zNW := znmem 542 (by decide +kernel) (by decide +kernel)
theorem qn655 : (Jvm.Cond.declares ({ cls := "GrownPost$TextReader", name := "readText", desc := "([III)Z" } : Jvm.MethodName)) ∈ zNW := znmem 655 (by decide +kernel) (by decide +kernel)
theorem qn746 : (Jvm.Cond.declares ({ cls := "GrownPost$TextReader", name := "readLine", desc := "()Z" } : Jvm.MethodName)) ∈ zNW := znmem 746 (by decide +kernel) (by decide +kernel)
theorem q0 : (Jvm.Cond.selects "GrownPost" ({ cls := "GrownPost", name := "putBytes", desc := "(I)V" } : Jvm.MethodName) ({ cls := "GrownPost", name := "putBytes", desc := "(I)V" } : Jvm.MethodName)) ∈ zGW := zmem 0 (by decide +kernel) (by decide +kernel)
theorem q1 : (Jvm.Cond.selects "GrownPost" ({ cls := "GrownPost", name := "fillLastsAhead", desc := "()V" } : Jvm.MethodName) ({ cls := "GrownPost", name := "fillLastsAhead", desc := "()V" } : Jvm.MethodName)) ∈ zGW := zmem 1 (by decide +kernel) (by decide +kernel)
theorem q2 : (Jvm.Cond.selects "GrownPost$Law" ({ cls := "GrownPost$Law", name := "follows", desc := "(LGrownPost$Mail;II)I" } : Jvm.MethodName) ({ cls := "GrownPost$Law", name := "follows", desc := "(LGrownPost$Mail;II)I" } : Jvm.MethodName)) ∈ zGW := zmem 2 (by decide +kernel) (by decide +kernel)
theorem q3 : (Jvm.Cond.selects "GrownPost$Law" ({ cls := "GrownPost$Law", name := "learnFacts", desc := "(LGrownPost$Mail;II)V" } : Jvm.MethodName) ({ cls := "GrownPost$Law", name := "learnFacts", desc := "(LGrownPost$Mail;II)V" } : Jvm.MethodName)) ∈ zGW := zmem 3 (by decide +kernel) (by decide +kernel)
theorem q4 : (Jvm.Cond.selects "GrownPost$Law" ({ cls := "GrownPost$Law", name := "isMet", desc := "(I)Z" } : Jvm.MethodName) ({ cls := "GrownPost$Law", name := "isMet", desc := "(I)Z" } : Jvm.MethodName)) ∈ zGW := zmem 4 (by decide +kernel) (by decide +kernel)
theorem q5 : (Jvm.Cond.selects "GrownPost" ({ cls := "GrownPost", name := "firstMeeting", desc := "(II)I" } : Jvm.MethodName) ({ cls := "GrownPost", name := "firstMeeting", desc := "(II)I" } : Jvm.MethodName)) ∈ zGW := zmem 5 (by decide +kernel) (by decide +kernel)
theorem q6 : (Jvm.Cond.selects "GrownPost$Tokens" ({ cls := "GrownPost$Tokens", name := "endOf", desc := "(I)I" } : Jvm.MethodName) ({ cls := "GrownPost$Tokens", name := "endOf", desc := "(I)I" } : Jvm.MethodName)) ∈ zGW := zmem 6 (by decide +kernel) (by decide +kernel)
theorem q7 : (Jvm.Cond.selects "GrownPost$Tokens" ({ cls := "GrownPost$Tokens", name := "addToken", desc := "(II)V" } : Jvm.MethodName) ({ cls := "GrownPost$Tokens", name := "addToken", desc := "(II)V" } : Jvm.MethodName)) ∈ zGW := zmem 7 (by decide +kernel) (by decide +kernel)
theorem q8 : (Jvm.Cond.selects "GrownPost$Tokens" ({ cls := "GrownPost$Tokens", name := "codeOf", desc := "(II)I" } : Jvm.MethodName) ({ cls := "GrownPost$Tokens", name := "codeOf", desc := "(II)I" } : Jvm.MethodName)) ∈ zGW := zmem 8 (by decide +kernel) (by decide +kernel)
theorem q9 : (Jvm.Cond.selects "GrownPost$Tokens" ({ cls := "GrownPost$Tokens", name := "wordCode", desc := "(II)I" } : Jvm.MethodName) ({ cls := "GrownPost$Tokens", name := "wordCode", desc := "(II)I" } : Jvm.MethodName)) ∈ zGW := zmem 9 (by decide +kernel) (by decide +kernel)
theorem q10 : (Jvm.Cond.selects "GrownPost$Tokens" ({ cls := "GrownPost$Tokens", name := "isKnown", desc := "(III)Z" } : Jvm.MethodName) ({ cls := "GrownPost$Tokens", name := "isKnown", desc := "(III)Z" } : Jvm.MethodName)) ∈ zGW := zmem 10 (by decide +kernel) (by decide +kernel)
theorem q11 : (Jvm.Cond.selects "GrownPost$Tokens" ({ cls := "GrownPost$Tokens", name := "numberCode", desc := "(II)I" } : Jvm.MethodName) ({ cls := "GrownPost$Tokens", name := "numberCode", desc := "(II)I" } : Jvm.MethodName)) ∈ zGW := zmem 11 (by decide +kernel) (by decide +kernel)
theorem q12 : (Jvm.Cond.selects "GrownPost$LawReader" ({ cls := "GrownPost$LawReader", name := "readEither", desc := "(I)Z" } : Jvm.MethodName) ({ cls := "GrownPost$LawReader", name := "readEither", desc := "(I)Z" } : Jvm.MethodName)) ∈ zGW := zmem 12 (by decide +kernel) (by decide +kernel)
theorem q13 : (Jvm.Cond.selects "GrownPost$LawReader" ({ cls := "GrownPost$LawReader", name := "readAll", desc := "(I)Z" } : Jvm.MethodName) ({ cls := "GrownPost$LawReader", name := "readAll", desc := "(I)Z" } : Jvm.MethodName)) ∈ zGW := zmem 13 (by decide +kernel) (by decide +kernel)
theorem q14 : (Jvm.Cond.selects "GrownPost$LawReader" ({ cls := "GrownPost$LawReader", name := "readAtom", desc := "(I)Z" } : Jvm.MethodName) ({ cls := "GrownPost$LawReader", name := "readAtom", desc := "(I)Z" } : Jvm.MethodName)) ∈ zGW := zmem 14 (by decide +kernel) (by decide +kernel)
theorem q15 : (Jvm.Cond.selects "GrownPost$LawReader" ({ cls := "GrownPost$LawReader", name := "readInner", desc := "(II)Z" } : Jvm.MethodName) ({ cls := "GrownPost$LawReader", name := "readInner", desc := "(II)Z" } : Jvm.MethodName)) ∈ zGW := zmem 15 (by decide +kernel) (by decide +kernel)
theorem q16 : (Jvm.Cond.selects "GrownPost$LawReader" ({ cls := "GrownPost$LawReader", name := "readSum", desc := "()Z" } : Jvm.MethodName) ({ cls := "GrownPost$LawReader", name := "readSum", desc := "()Z" } : Jvm.MethodName)) ∈ zGW := zmem 16 (by decide +kernel) (by decide +kernel)
theorem q17 : (Jvm.Cond.selects "GrownPost$PostReader" ({ cls := "GrownPost$PostReader", name := "readLetter", desc := "()Z" } : Jvm.MethodName) ({ cls := "GrownPost$PostReader", name := "readLetter", desc := "()Z" } : Jvm.MethodName)) ∈ zGW := zmem 17 (by decide +kernel) (by decide +kernel)
theorem q18 : (Jvm.Cond.selects "GrownPost$PostReader" ({ cls := "GrownPost$PostReader", name := "readWords", desc := "()Z" } : Jvm.MethodName) ({ cls := "GrownPost$PostReader", name := "readWords", desc := "()Z" } : Jvm.MethodName)) ∈ zGW := zmem 18 (by decide +kernel) (by decide +kernel)
theorem q19 : (Jvm.Cond.selects "GrownPost$PostReader" ({ cls := "GrownPost$PostReader", name := "readPromise", desc := "()Z" } : Jvm.MethodName) ({ cls := "GrownPost$PostReader", name := "readPromise", desc := "()Z" } : Jvm.MethodName)) ∈ zGW := zmem 19 (by decide +kernel) (by decide +kernel)
theorem q20 : (Jvm.Cond.selects "GrownPost$PostReader" ({ cls := "GrownPost$PostReader", name := "readSlip", desc := "()Z" } : Jvm.MethodName) ({ cls := "GrownPost$PostReader", name := "readSlip", desc := "()Z" } : Jvm.MethodName)) ∈ zGW := zmem 20 (by decide +kernel) (by decide +kernel)
theorem q21 : (Jvm.Cond.selects "GrownPost$PostReader" ({ cls := "GrownPost$PostReader", name := "readState", desc := "(Z)Z" } : Jvm.MethodName) ({ cls := "GrownPost$PostReader", name := "readState", desc := "(Z)Z" } : Jvm.MethodName)) ∈ zGW := zmem 21 (by decide +kernel) (by decide +kernel)
theorem q22 : (Jvm.Cond.selects "GrownPost$PostReader" ({ cls := "GrownPost$PostReader", name := "readWeek", desc := "()Z" } : Jvm.MethodName) ({ cls := "GrownPost$PostReader", name := "readWeek", desc := "()Z" } : Jvm.MethodName)) ∈ zGW := zmem 22 (by decide +kernel) (by decide +kernel)
theorem q23 : (Jvm.Cond.selects "GrownPost" ({ cls := "GrownPost", name := "endReading", desc := "(I)V" } : Jvm.MethodName) ({ cls := "GrownPost", name := "endReading", desc := "(I)V" } : Jvm.MethodName)) ∈ zGW := zmem 23 (by decide +kernel) (by decide +kernel)
theorem q25 : (Jvm.Cond.selects "GrownPost" ({ cls := "GrownPost", name := "mailOf", desc := "(I)LGrownPost$Mail;" } : Jvm.MethodName) ({ cls := "GrownPost", name := "mailOf", desc := "(I)LGrownPost$Mail;" } : Jvm.MethodName)) ∈ zGW := zmem 25 (by decide +kernel) (by decide +kernel)
theorem q26 : (Jvm.Cond.selects "GrownPost" ({ cls := "GrownPost", name := "needLetter", desc := "(I)V" } : Jvm.MethodName) ({ cls := "GrownPost", name := "needLetter", desc := "(I)V" } : Jvm.MethodName)) ∈ zGW := zmem 26 (by decide +kernel) (by decide +kernel)
theorem q27 : (Jvm.Cond.selects "GrownPost" ({ cls := "GrownPost", name := "needPromise", desc := "(I)V" } : Jvm.MethodName) ({ cls := "GrownPost", name := "needPromise", desc := "(I)V" } : Jvm.MethodName)) ∈ zGW := zmem 27 (by decide +kernel) (by decide +kernel)
theorem q28 : (Jvm.Cond.selects "GrownPost" ({ cls := "GrownPost", name := "areKinds", desc := "(I)Z" } : Jvm.MethodName) ({ cls := "GrownPost", name := "areKinds", desc := "(I)Z" } : Jvm.MethodName)) ∈ zGW := zmem 28 (by decide +kernel) (by decide +kernel)
theorem q29 : (Jvm.Cond.selects "GrownPost$Bag" ({ cls := "GrownPost$Bag", name := "growOne", desc := "(LGrownPost$Mail;LGrownPost$Law;I)I" } : Jvm.MethodName) ({ cls := "GrownPost$Bag", name := "growOne", desc := "(LGrownPost$Mail;LGrownPost$Law;I)I" } : Jvm.MethodName)) ∈ zGW := zmem 29 (by decide +kernel) (by decide +kernel)
theorem q30 : (Jvm.Cond.selects "GrownPost$Bag" ({ cls := "GrownPost$Bag", name := "draw", desc := "()I" } : Jvm.MethodName) ({ cls := "GrownPost$Bag", name := "draw", desc := "()I" } : Jvm.MethodName)) ∈ zGW := zmem 30 (by decide +kernel) (by decide +kernel)
theorem q31 : (Jvm.Cond.selects "GrownPost" ({ cls := "GrownPost", name := "firstBinding", desc := "(LGrownPost$Mail;I)I" } : Jvm.MethodName) ({ cls := "GrownPost", name := "firstBinding", desc := "(LGrownPost$Mail;I)I" } : Jvm.MethodName)) ∈ zGW := zmem 31 (by decide +kernel) (by decide +kernel)
theorem q32 : (Jvm.Cond.selects "GrownPost" ({ cls := "GrownPost", name := "tallyTempers", desc := "(LGrownPost$Mail;I)V" } : Jvm.MethodName) ({ cls := "GrownPost", name := "tallyTempers", desc := "(LGrownPost$Mail;I)V" } : Jvm.MethodName)) ∈ zGW := zmem 32 (by decide +kernel) (by decide +kernel)
theorem q33 : (Jvm.Cond.selects "GrownPost" ({ cls := "GrownPost", name := "tryWeeks", desc := "(II)V" } : Jvm.MethodName) ({ cls := "GrownPost", name := "tryWeeks", desc := "(II)V" } : Jvm.MethodName)) ∈ zGW := zmem 33 (by decide +kernel) (by decide +kernel)
theorem q34 : (Jvm.Cond.selects "GrownPostModel" ({ cls := "GrownPostModel", name := "readAll", desc := "(Z)I" } : Jvm.MethodName) ({ cls := "GrownPostModel", name := "readAll", desc := "(Z)I" } : Jvm.MethodName)) ∈ zGW := zmem 34 (by decide +kernel) (by decide +kernel)
theorem q35 : (Jvm.Cond.selects "GrownPostModel" ({ cls := "GrownPostModel", name := "uses", desc := "()V" } : Jvm.MethodName) ({ cls := "GrownPostModel", name := "uses", desc := "()V" } : Jvm.MethodName)) ∈ zGW := zmem 35 (by decide +kernel) (by decide +kernel)
theorem q36 : (Jvm.Cond.selects "GrownPostModel" ({ cls := "GrownPostModel", name := "blanks", desc := "()V" } : Jvm.MethodName) ({ cls := "GrownPostModel", name := "blanks", desc := "()V" } : Jvm.MethodName)) ∈ zGW := zmem 36 (by decide +kernel) (by decide +kernel)
theorem q37 : (Jvm.Cond.selects "GrownPostModel" ({ cls := "GrownPostModel", name := "isAt", desc := "(II)Z" } : Jvm.MethodName) ({ cls := "GrownPostModel", name := "isAt", desc := "(II)Z" } : Jvm.MethodName)) ∈ zGW := zmem 37 (by decide +kernel) (by decide +kernel)
theorem q38 : (Jvm.Cond.selects "GrownPostModel" ({ cls := "GrownPostModel", name := "readLine", desc := "(ZI)Z" } : Jvm.MethodName) ({ cls := "GrownPostModel", name := "readLine", desc := "(ZI)Z" } : Jvm.MethodName)) ∈ zGW := zmem 38 (by decide +kernel) (by decide +kernel)
theorem q39 : (Jvm.Cond.selects "GrownPostModel" ({ cls := "GrownPostModel", name := "lettersPass", desc := "()V" } : Jvm.MethodName) ({ cls := "GrownPostModel", name := "lettersPass", desc := "()V" } : Jvm.MethodName)) ∈ zGW := zmem 39 (by decide +kernel) (by decide +kernel)
theorem q40 : (Jvm.Cond.selects "GrownPostModel" ({ cls := "GrownPostModel", name := "readPostLine", desc := "()Z" } : Jvm.MethodName) ({ cls := "GrownPostModel", name := "readPostLine", desc := "()Z" } : Jvm.MethodName)) ∈ zGW := zmem 40 (by decide +kernel) (by decide +kernel)
theorem q41 : (Jvm.Cond.selects "GrownPostModel" ({ cls := "GrownPostModel", name := "isWord", desc := "(Ljava/lang/String;)Z" } : Jvm.MethodName) ({ cls := "GrownPostModel", name := "isWord", desc := "(Ljava/lang/String;)Z" } : Jvm.MethodName)) ∈ zGW := zmem 41 (by decide +kernel) (by decide +kernel)
theorem q42 : (Jvm.Cond.selects "GrownPostModel" ({ cls := "GrownPostModel", name := "readLetter", desc := "()Z" } : Jvm.MethodName) ({ cls := "GrownPostModel", name := "readLetter", desc := "()Z" } : Jvm.MethodName)) ∈ zGW := zmem 42 (by decide +kernel) (by decide +kernel)
theorem q43 : (Jvm.Cond.selects "GrownPostModel" ({ cls := "GrownPostModel", name := "letters", desc := "()I" } : Jvm.MethodName) ({ cls := "GrownPostModel", name := "letters", desc := "()I" } : Jvm.MethodName)) ∈ zGW := zmem 43 (by decide +kernel) (by decide +kernel)
theorem q44 : (Jvm.Cond.selects "GrownPostModel" ({ cls := "GrownPostModel", name := "after", desc := "(Ljava/lang/String;II)I" } : Jvm.MethodName) ({ cls := "GrownPostModel", name := "after", desc := "(Ljava/lang/String;II)I" } : Jvm.MethodName)) ∈ zGW := zmem 44 (by decide +kernel) (by decide +kernel)
theorem q45 : (Jvm.Cond.selects "GrownPostModel" ({ cls := "GrownPostModel", name := "number", desc := "(II)I" } : Jvm.MethodName) ({ cls := "GrownPostModel", name := "number", desc := "(II)I" } : Jvm.MethodName)) ∈ zGW := zmem 45 (by decide +kernel) (by decide +kernel)
theorem q46 : (Jvm.Cond.selects "GrownPostModel" ({ cls := "GrownPostModel", name := "begins", desc := "(II)I" } : Jvm.MethodName) ({ cls := "GrownPostModel", name := "begins", desc := "(II)I" } : Jvm.MethodName)) ∈ zGW := zmem 46 (by decide +kernel) (by decide +kernel)
theorem q47 : (Jvm.Cond.selects "GrownPostModel" ({ cls := "GrownPostModel", name := "comes", desc := "(II)V" } : Jvm.MethodName) ({ cls := "GrownPostModel", name := "comes", desc := "(II)V" } : Jvm.MethodName)) ∈ zGW := zmem 47 (by decide +kernel) (by decide +kernel)
theorem q48 : (Jvm.Cond.selects "GrownPostModel" ({ cls := "GrownPostModel", name := "lines", desc := "(I)I" } : Jvm.MethodName) ({ cls := "GrownPostModel", name := "lines", desc := "(I)I" } : Jvm.MethodName)) ∈ zGW := zmem 48 (by decide +kernel) (by decide +kernel)
theorem q49 : (Jvm.Cond.selects "GrownPostModel" ({ cls := "GrownPostModel", name := "of", desc := "(II)I" } : Jvm.MethodName) ({ cls := "GrownPostModel", name := "of", desc := "(II)I" } : Jvm.MethodName)) ∈ zGW := zmem 49 (by decide +kernel) (by decide +kernel)
theorem q50 : (Jvm.Cond.selects "GrownPostModel" ({ cls := "GrownPostModel", name := "readWords", desc := "()Z" } : Jvm.MethodName) ({ cls := "GrownPostModel", name := "readWords", desc := "()Z" } : Jvm.MethodName)) ∈ zGW := zmem 50 (by decide +kernel) (by decide +kernel)
theorem q51 : (Jvm.Cond.selects "GrownPostModel" ({ cls := "GrownPostModel", name := "kindNext", desc := "()I" } : Jvm.MethodName) ({ cls := "GrownPostModel", name := "kindNext", desc := "()I" } : Jvm.MethodName)) ∈ zGW := zmem 51 (by decide +kernel) (by decide +kernel)
theorem q52 : (Jvm.Cond.selects "GrownPostModel" ({ cls := "GrownPostModel", name := "kindTold", desc := "()I" } : Jvm.MethodName) ({ cls := "GrownPostModel", name := "kindTold", desc := "()I" } : Jvm.MethodName)) ∈ zGW := zmem 52 (by decide +kernel) (by decide +kernel)
theorem q53 : (Jvm.Cond.selects "GrownPostModel" ({ cls := "GrownPostModel", name := "readPromise", desc := "()Z" } : Jvm.MethodName) ({ cls := "GrownPostModel", name := "readPromise", desc := "()Z" } : Jvm.MethodName)) ∈ zGW := zmem 53 (by decide +kernel) (by decide +kernel)
theorem q54 : (Jvm.Cond.selects "GrownPostModel" ({ cls := "GrownPostModel", name := "promises", desc := "()I" } : Jvm.MethodName) ({ cls := "GrownPostModel", name := "promises", desc := "()I" } : Jvm.MethodName)) ∈ zGW := zmem 54 (by decide +kernel) (by decide +kernel)
theorem q55 : (Jvm.Cond.selects "GrownPostModel" ({ cls := "GrownPostModel", name := "readNumber", desc := "(III)Z" } : Jvm.MethodName) ({ cls := "GrownPostModel", name := "readNumber", desc := "(III)Z" } : Jvm.MethodName)) ∈ zGW := zmem 55 (by decide +kernel) (by decide +kernel)
theorem q56 : (Jvm.Cond.selects "GrownPostModel" ({ cls := "GrownPostModel", name := "readOf", desc := "(I)Z" } : Jvm.MethodName) ({ cls := "GrownPostModel", name := "readOf", desc := "(I)Z" } : Jvm.MethodName)) ∈ zGW := zmem 56 (by decide +kernel) (by decide +kernel)
theorem q57 : (Jvm.Cond.selects "GrownPostModel" ({ cls := "GrownPostModel", name := "readLawLine", desc := "(I)Z" } : Jvm.MethodName) ({ cls := "GrownPostModel", name := "readLawLine", desc := "(I)Z" } : Jvm.MethodName)) ∈ zGW := zmem 57 (by decide +kernel) (by decide +kernel)
theorem q58 : (Jvm.Cond.selects "GrownPostModel" ({ cls := "GrownPostModel", name := "passes", desc := "(Ljava/lang/String;)Z" } : Jvm.MethodName) ({ cls := "GrownPostModel", name := "passes", desc := "(Ljava/lang/String;)Z" } : Jvm.MethodName)) ∈ zGW := zmem 58 (by decide +kernel) (by decide +kernel)
theorem q59 : (Jvm.Cond.selects "GrownPostModel" ({ cls := "GrownPostModel", name := "readCond", desc := "()Z" } : Jvm.MethodName) ({ cls := "GrownPostModel", name := "readCond", desc := "()Z" } : Jvm.MethodName)) ∈ zGW := zmem 59 (by decide +kernel) (by decide +kernel)
theorem q60 : (Jvm.Cond.selects "GrownPostModel" ({ cls := "GrownPostModel", name := "readAllOf", desc := "()Z" } : Jvm.MethodName) ({ cls := "GrownPostModel", name := "readAllOf", desc := "()Z" } : Jvm.MethodName)) ∈ zGW := zmem 60 (by decide +kernel) (by decide +kernel)
theorem q61 : (Jvm.Cond.selects "GrownPostModel" ({ cls := "GrownPostModel", name := "readAtom", desc := "()Z" } : Jvm.MethodName) ({ cls := "GrownPostModel", name := "readAtom", desc := "()Z" } : Jvm.MethodName)) ∈ zGW := zmem 61 (by decide +kernel) (by decide +kernel)
theorem q62 : (Jvm.Cond.selects "GrownPostModel" ({ cls := "GrownPostModel", name := "sign", desc := "(I)Z" } : Jvm.MethodName) ({ cls := "GrownPostModel", name := "sign", desc := "(I)Z" } : Jvm.MethodName)) ∈ zGW := zmem 62 (by decide +kernel) (by decide +kernel)
theorem q63 : (Jvm.Cond.selects "GrownPostModel" ({ cls := "GrownPostModel", name := "emits", desc := "(II)V" } : Jvm.MethodName) ({ cls := "GrownPostModel", name := "emits", desc := "(II)V" } : Jvm.MethodName)) ∈ zGW := zmem 63 (by decide +kernel) (by decide +kernel)
theorem q64 : (Jvm.Cond.selects "GrownPostModel" ({ cls := "GrownPostModel", name := "readTag", desc := "()Z" } : Jvm.MethodName) ({ cls := "GrownPostModel", name := "readTag", desc := "()Z" } : Jvm.MethodName)) ∈ zGW := zmem 64 (by decide +kernel) (by decide +kernel)
theorem q65 : (Jvm.Cond.selects "GrownPostModel" ({ cls := "GrownPostModel", name := "readSum", desc := "()Z" } : Jvm.MethodName) ({ cls := "GrownPostModel", name := "readSum", desc := "()Z" } : Jvm.MethodName)) ∈ zGW := zmem 65 (by decide +kernel) (by decide +kernel)
theorem q66 : (Jvm.Cond.selects "GrownPostModel" ({ cls := "GrownPostModel", name := "readPart", desc := "()Z" } : Jvm.MethodName) ({ cls := "GrownPostModel", name := "readPart", desc := "()Z" } : Jvm.MethodName)) ∈ zGW := zmem 66 (by decide +kernel) (by decide +kernel)
theorem q67 : (Jvm.Cond.selects "GrownPostModel" ({ cls := "GrownPostModel", name := "throwsIf", desc := "(ZI)Z" } : Jvm.MethodName) ({ cls := "GrownPostModel", name := "throwsIf", desc := "(ZI)Z" } : Jvm.MethodName)) ∈ zGW := zmem 67 (by decide +kernel) (by decide +kernel)
theorem q68 : (Jvm.Cond.selects "GrownPostModel" ({ cls := "GrownPostModel", name := "noLetter", desc := "(I)Z" } : Jvm.MethodName) ({ cls := "GrownPostModel", name := "noLetter", desc := "(I)Z" } : Jvm.MethodName)) ∈ zGW := zmem 68 (by decide +kernel) (by decide +kernel)
theorem q69 : (Jvm.Cond.selects "GrownPostModel" ({ cls := "GrownPostModel", name := "looksAt", desc := "(I)V" } : Jvm.MethodName) ({ cls := "GrownPostModel", name := "looksAt", desc := "(I)V" } : Jvm.MethodName)) ∈ zGW := zmem 69 (by decide +kernel) (by decide +kernel)
theorem q70 : (Jvm.Cond.selects "GrownPostModel" ({ cls := "GrownPostModel", name := "kindOf", desc := "(II)I" } : Jvm.MethodName) ({ cls := "GrownPostModel", name := "kindOf", desc := "(II)I" } : Jvm.MethodName)) ∈ zGW := zmem 70 (by decide +kernel) (by decide +kernel)
theorem q71 : (Jvm.Cond.selects "GrownPostModel" ({ cls := "GrownPostModel", name := "isOpen", desc := "(I)Z" } : Jvm.MethodName) ({ cls := "GrownPostModel", name := "isOpen", desc := "(I)Z" } : Jvm.MethodName)) ∈ zGW := zmem 71 (by decide +kernel) (by decide +kernel)
theorem q72 : (Jvm.Cond.selects "GrownPostModel" ({ cls := "GrownPostModel", name := "wordsNow", desc := "()I" } : Jvm.MethodName) ({ cls := "GrownPostModel", name := "wordsNow", desc := "()I" } : Jvm.MethodName)) ∈ zGW := zmem 72 (by decide +kernel) (by decide +kernel)
theorem q73 : (Jvm.Cond.selects "GrownPostModel" ({ cls := "GrownPostModel", name := "last", desc := "()I" } : Jvm.MethodName) ({ cls := "GrownPostModel", name := "last", desc := "()I" } : Jvm.MethodName)) ∈ zGW := zmem 73 (by decide +kernel) (by decide +kernel)
theorem q74 : (Jvm.Cond.selects "GrownPostModel" ({ cls := "GrownPostModel", name := "canGrow", desc := "()Z" } : Jvm.MethodName) ({ cls := "GrownPostModel", name := "canGrow", desc := "()Z" } : Jvm.MethodName)) ∈ zGW := zmem 74 (by decide +kernel) (by decide +kernel)
theorem q75 : (Jvm.Cond.selects "GrownPostModel" ({ cls := "GrownPostModel", name := "follows", desc := "()I" } : Jvm.MethodName) ({ cls := "GrownPostModel", name := "follows", desc := "()I" } : Jvm.MethodName)) ∈ zGW := zmem 75 (by decide +kernel) (by decide +kernel)
theorem q76 : (Jvm.Cond.selects "GrownPostModel" ({ cls := "GrownPostModel", name := "lawLines", desc := "()I" } : Jvm.MethodName) ({ cls := "GrownPostModel", name := "lawLines", desc := "()I" } : Jvm.MethodName)) ∈ zGW := zmem 76 (by decide +kernel) (by decide +kernel)
theorem q77 : (Jvm.Cond.selects "GrownPostModel" ({ cls := "GrownPostModel", name := "lawFrom", desc := "(I)I" } : Jvm.MethodName) ({ cls := "GrownPostModel", name := "lawFrom", desc := "(I)I" } : Jvm.MethodName)) ∈ zGW := zmem 77 (by decide +kernel) (by decide +kernel)
theorem q78 : (Jvm.Cond.selects "GrownPostModel" ({ cls := "GrownPostModel", name := "holdsLine", desc := "(I)Z" } : Jvm.MethodName) ({ cls := "GrownPostModel", name := "holdsLine", desc := "(I)Z" } : Jvm.MethodName)) ∈ zGW := zmem 78 (by decide +kernel) (by decide +kernel)
theorem q79 : (Jvm.Cond.selects "GrownPostModel" ({ cls := "GrownPostModel", name := "factOf", desc := "(II)I" } : Jvm.MethodName) ({ cls := "GrownPostModel", name := "factOf", desc := "(II)I" } : Jvm.MethodName)) ∈ zGW := zmem 79 (by decide +kernel) (by decide +kernel)
theorem q80 : (Jvm.Cond.selects "GrownPostModel" ({ cls := "GrownPostModel", name := "lawTo", desc := "(I)I" } : Jvm.MethodName) ({ cls := "GrownPostModel", name := "lawTo", desc := "(I)I" } : Jvm.MethodName)) ∈ zGW := zmem 80 (by decide +kernel) (by decide +kernel)
theorem q81 : (Jvm.Cond.selects "GrownPostModel" ({ cls := "GrownPostModel", name := "noLine", desc := "(II)Z" } : Jvm.MethodName) ({ cls := "GrownPostModel", name := "noLine", desc := "(II)Z" } : Jvm.MethodName)) ∈ zGW := zmem 81 (by decide +kernel) (by decide +kernel)
theorem q82 : (Jvm.Cond.selects "GrownPostModel" ({ cls := "GrownPostModel", name := "noPromise", desc := "(I)Z" } : Jvm.MethodName) ({ cls := "GrownPostModel", name := "noPromise", desc := "(I)Z" } : Jvm.MethodName)) ∈ zGW := zmem 82 (by decide +kernel) (by decide +kernel)
theorem q83 : (Jvm.Cond.selects "GrownPostModel" ({ cls := "GrownPostModel", name := "ofPromise", desc := "(IZ)I" } : Jvm.MethodName) ({ cls := "GrownPostModel", name := "ofPromise", desc := "(IZ)I" } : Jvm.MethodName)) ∈ zGW := zmem 83 (by decide +kernel) (by decide +kernel)
theorem q84 : (Jvm.Cond.selects "GrownPostModel" ({ cls := "GrownPostModel", name := "remembers", desc := "()V" } : Jvm.MethodName) ({ cls := "GrownPostModel", name := "remembers", desc := "()V" } : Jvm.MethodName)) ∈ zGW := zmem 84 (by decide +kernel) (by decide +kernel)
theorem q85 : (Jvm.Cond.selects "GrownPostModel" ({ cls := "GrownPostModel", name := "turns", desc := "(IIZ)Z" } : Jvm.MethodName) ({ cls := "GrownPostModel", name := "turns", desc := "(IIZ)Z" } : Jvm.MethodName)) ∈ zGW := zmem 85 (by decide +kernel) (by decide +kernel)
theorem q86 : (Jvm.Cond.selects "GrownPostModel" ({ cls := "GrownPostModel", name := "oneWeek", desc := "()I" } : Jvm.MethodName) ({ cls := "GrownPostModel", name := "oneWeek", desc := "()I" } : Jvm.MethodName)) ∈ zGW := zmem 86 (by decide +kernel) (by decide +kernel)
theorem q87 : (Jvm.Cond.selects "GrownPostModel" ({ cls := "GrownPostModel", name := "grows", desc := "(I)I" } : Jvm.MethodName) ({ cls := "GrownPostModel", name := "grows", desc := "(I)I" } : Jvm.MethodName)) ∈ zGW := zmem 87 (by decide +kernel) (by decide +kernel)
theorem q88 : (Jvm.Cond.selects "GrownPostModel" ({ cls := "GrownPostModel", name := "draw", desc := "(I)I" } : Jvm.MethodName) ({ cls := "GrownPostModel", name := "draw", desc := "(I)I" } : Jvm.MethodName)) ∈ zGW := zmem 88 (by decide +kernel) (by decide +kernel)
theorem q89 : (Jvm.Cond.selects "GrownPostModel" ({ cls := "GrownPostModel", name := "looksAhead", desc := "(II)V" } : Jvm.MethodName) ({ cls := "GrownPostModel", name := "looksAhead", desc := "(II)V" } : Jvm.MethodName)) ∈ zGW := zmem 89 (by decide +kernel) (by decide +kernel)
theorem q90 : (Jvm.Cond.selects "GrownPostModel" ({ cls := "GrownPostModel", name := "goesFor", desc := "(I)V" } : Jvm.MethodName) ({ cls := "GrownPostModel", name := "goesFor", desc := "(I)V" } : Jvm.MethodName)) ∈ zGW := zmem 90 (by decide +kernel) (by decide +kernel)
theorem q91 : (Jvm.Cond.selects "GrownPostModel" ({ cls := "GrownPostModel", name := "goesOn", desc := "()V" } : Jvm.MethodName) ({ cls := "GrownPostModel", name := "goesOn", desc := "()V" } : Jvm.MethodName)) ∈ zGW := zmem 91 (by decide +kernel) (by decide +kernel)
theorem q92 : (Jvm.Cond.selects "GrownPostModel" ({ cls := "GrownPostModel", name := "growsOnce", desc := "()V" } : Jvm.MethodName) ({ cls := "GrownPostModel", name := "growsOnce", desc := "()V" } : Jvm.MethodName)) ∈ zGW := zmem 92 (by decide +kernel) (by decide +kernel)
theorem q93 : (Jvm.Cond.selects "GrownPostModel" ({ cls := "GrownPostModel", name := "saysBy", desc := "(IIZ)I" } : Jvm.MethodName) ({ cls := "GrownPostModel", name := "saysBy", desc := "(IIZ)I" } : Jvm.MethodName)) ∈ zGW := zmem 93 (by decide +kernel) (by decide +kernel)
theorem q94 : (Jvm.Cond.selects "GrownPostModel" ({ cls := "GrownPostModel", name := "holdsKind", desc := "(I)Z" } : Jvm.MethodName) ({ cls := "GrownPostModel", name := "holdsKind", desc := "(I)Z" } : Jvm.MethodName)) ∈ zGW := zmem 94 (by decide +kernel) (by decide +kernel)
theorem q95 : (Jvm.Cond.selects "GrownPostModel" ({ cls := "GrownPostModel", name := "leads", desc := "(IIIII)Z" } : Jvm.MethodName) ({ cls := "GrownPostModel", name := "leads", desc := "(IIIII)Z" } : Jvm.MethodName)) ∈ zGW := zmem 95 (by decide +kernel) (by decide +kernel)
theorem q96 : (Jvm.Cond.selects "GrownPostModel" ({ cls := "GrownPostModel", name := "astrayOf", desc := "(I)I" } : Jvm.MethodName) ({ cls := "GrownPostModel", name := "astrayOf", desc := "(I)I" } : Jvm.MethodName)) ∈ zGW := zmem 96 (by decide +kernel) (by decide +kernel)
theorem q97 : (Jvm.Cond.selects "GrownPostModel" ({ cls := "GrownPostModel", name := "hasSense", desc := "(II)Z" } : Jvm.MethodName) ({ cls := "GrownPostModel", name := "hasSense", desc := "(II)Z" } : Jvm.MethodName)) ∈ zGW := zmem 97 (by decide +kernel) (by decide +kernel)
theorem q98 : (Jvm.Cond.selects "GrownPostModel" ({ cls := "GrownPostModel", name := "meetOf", desc := "(IIZ)I" } : Jvm.MethodName) ({ cls := "GrownPostModel", name := "meetOf", desc := "(IIZ)I" } : Jvm.MethodName)) ∈ zGW := zmem 98 (by decide +kernel) (by decide +kernel)
theorem q99 : (Jvm.Cond.selects "GrownPostModel" ({ cls := "GrownPostModel", name := "growsAll", desc := "(I)V" } : Jvm.MethodName) ({ cls := "GrownPostModel", name := "growsAll", desc := "(I)V" } : Jvm.MethodName)) ∈ zGW := zmem 99 (by decide +kernel) (by decide +kernel)
theorem q100 : (Jvm.Cond.selects "GrownPostModel" ({ cls := "GrownPostModel", name := "isMet", desc := "(IZ)Z" } : Jvm.MethodName) ({ cls := "GrownPostModel", name := "isMet", desc := "(IZ)Z" } : Jvm.MethodName)) ∈ zGW := zmem 100 (by decide +kernel) (by decide +kernel)
theorem q101 : (Jvm.Cond.selects "GrownPostModel" ({ cls := "GrownPostModel", name := "alikeFrom", desc := "(IIII)I" } : Jvm.MethodName) ({ cls := "GrownPostModel", name := "alikeFrom", desc := "(IIII)I" } : Jvm.MethodName)) ∈ zGW := zmem 101 (by decide +kernel) (by decide +kernel)
theorem q102 : (Jvm.Cond.selects "GrownPostModel" ({ cls := "GrownPostModel", name := "boundNow", desc := "()I" } : Jvm.MethodName) ({ cls := "GrownPostModel", name := "boundNow", desc := "()I" } : Jvm.MethodName)) ∈ zGW := zmem 102 (by decide +kernel) (by decide +kernel)
theorem q103 : (Jvm.Cond.selects "GrownPostModel" ({ cls := "GrownPostModel", name := "isBound", desc := "(I)Z" } : Jvm.MethodName) ({ cls := "GrownPostModel", name := "isBound", desc := "(I)Z" } : Jvm.MethodName)) ∈ zGW := zmem 103 (by decide +kernel) (by decide +kernel)
theorem q104 : (Jvm.Cond.selects "GrownPostModel" ({ cls := "GrownPostModel", name := "whenOf", desc := "(II)I" } : Jvm.MethodName) ({ cls := "GrownPostModel", name := "whenOf", desc := "(II)I" } : Jvm.MethodName)) ∈ zGW := zmem 104 (by decide +kernel) (by decide +kernel)
theorem q105 : (Jvm.Cond.selects "GrownPostModel" ({ cls := "GrownPostModel", name := "postageOf", desc := "(II)I" } : Jvm.MethodName) ({ cls := "GrownPostModel", name := "postageOf", desc := "(II)I" } : Jvm.MethodName)) ∈ zGW := zmem 105 (by decide +kernel) (by decide +kernel)
theorem q106 : (Jvm.Cond.selects "GrownPostModel" ({ cls := "GrownPostModel", name := "forkOf", desc := "(III)I" } : Jvm.MethodName) ({ cls := "GrownPostModel", name := "forkOf", desc := "(III)I" } : Jvm.MethodName)) ∈ zGW := zmem 106 (by decide +kernel) (by decide +kernel)
theorem q107 : (Jvm.Cond.selects "GrownPostModel" ({ cls := "GrownPostModel", name := "fewestOf", desc := "(II)I" } : Jvm.MethodName) ({ cls := "GrownPostModel", name := "fewestOf", desc := "(II)I" } : Jvm.MethodName)) ∈ zGW := zmem 107 (by decide +kernel) (by decide +kernel)
theorem q108 : (Jvm.Cond.selects "GrownPostModel" ({ cls := "GrownPostModel", name := "lengthOf", desc := "(I)I" } : Jvm.MethodName) ({ cls := "GrownPostModel", name := "lengthOf", desc := "(I)I" } : Jvm.MethodName)) ∈ zGW := zmem 108 (by decide +kernel) (by decide +kernel)
theorem q109 : (Jvm.Cond.selects "GrownPostModel" ({ cls := "GrownPostModel", name := "keepsAll", desc := "()V" } : Jvm.MethodName) ({ cls := "GrownPostModel", name := "keepsAll", desc := "()V" } : Jvm.MethodName)) ∈ zGW := zmem 109 (by decide +kernel) (by decide +kernel)
theorem q110 : (Jvm.Cond.selects "GrownPostModel" ({ cls := "GrownPostModel", name := "allLines", desc := "()I" } : Jvm.MethodName) ({ cls := "GrownPostModel", name := "allLines", desc := "()I" } : Jvm.MethodName)) ∈ zGW := zmem 110 (by decide +kernel) (by decide +kernel)
theorem q111 : (Jvm.Cond.selects "GrownPostModel" ({ cls := "GrownPostModel", name := "bringsBack", desc := "()V" } : Jvm.MethodName) ({ cls := "GrownPostModel", name := "bringsBack", desc := "()V" } : Jvm.MethodName)) ∈ zGW := zmem 111 (by decide +kernel) (by decide +kernel)
theorem q112 : (Jvm.Cond.selects "GrownPostModel" ({ cls := "GrownPostModel", name := "cameIn", desc := "(II)I" } : Jvm.MethodName) ({ cls := "GrownPostModel", name := "cameIn", desc := "(II)I" } : Jvm.MethodName)) ∈ zGW := zmem 112 (by decide +kernel) (by decide +kernel)
theorem q113 : (Jvm.Cond.selects "GrownPostModel" ({ cls := "GrownPostModel", name := "those", desc := "(I)I" } : Jvm.MethodName) ({ cls := "GrownPostModel", name := "those", desc := "(I)I" } : Jvm.MethodName)) ∈ zGW := zmem 113 (by decide +kernel) (by decide +kernel)
theorem q130 : (Jvm.Cond.initialized "java/lang/String") ∈ zGW := zmem 130 (by decide +kernel) (by decide +kernel)
theorem q131 : (Jvm.Cond.initialized "java/lang/StringLatin1") ∈ zGW := zmem 131 (by decide +kernel) (by decide +kernel)
theorem q132 : (Jvm.Cond.initialized "jdk/internal/util/Preconditions") ∈ zGW := zmem 132 (by decide +kernel) (by decide +kernel)
theorem q137 : (Jvm.Cond.initialized "java/lang/IllegalArgumentException") ∈ zGW := zmem 137 (by decide +kernel) (by decide +kernel)
theorem q138 : (Jvm.Cond.initialized "java/lang/UnsupportedOperationException") ∈ zGW := zmem 138 (by decide +kernel) (by decide +kernel)
theorem q139 : (Jvm.Cond.initialized "java/lang/IndexOutOfBoundsException") ∈ zGW := zmem 139 (by decide +kernel) (by decide +kernel)
theorem q140 : (Jvm.Cond.initialized "java/util/NoSuchElementException") ∈ zGW := zmem 140 (by decide +kernel) (by decide +kernel)
theorem q141 : (Jvm.Cond.initialized "java/lang/IllegalStateException") ∈ zGW := zmem 141 (by decide +kernel) (by decide +kernel)
theorem q170 : (Jvm.Cond.fieldLink "GrownPost$Mail" (9 : Nat) "GrownPost$Mail" "kinds" "[I") ∈ zGW := zmem 170 (by decide +kernel) (by decide +kernel)
theorem q172 : (Jvm.Cond.fieldLink "GrownPost$Mail" (15 : Nat) "GrownPost$Mail" "weeks" "[I") ∈ zGW := zmem 172 (by decide +kernel) (by decide +kernel)
theorem q173 : (Jvm.Cond.fieldLink "GrownPost$Mail" (24 : Nat) "GrownPost$Mail" "lines" "I") ∈ zGW := zmem 173 (by decide +kernel) (by decide +kernel)
theorem q178 : (Jvm.Cond.fieldLink "GrownPost$Mail" (28 : Nat) "GrownPost$Mail" "temper" "I") ∈ zGW := zmem 178 (by decide +kernel) (by decide +kernel)
theorem q181 : (Jvm.Cond.fieldLink "GrownPost$Mail" (31 : Nat) "GrownPost$Mail" "sender" "I") ∈ zGW := zmem 181 (by decide +kernel) (by decide +kernel)
theorem q184 : (Jvm.Cond.fieldLink "GrownPost$Mail" (34 : Nat) "GrownPost$Mail" "open" "Z") ∈ zGW := zmem 184 (by decide +kernel) (by decide +kernel)
theorem q189 : (Jvm.Cond.fieldLink "GrownPost$Mail" (38 : Nat) "GrownPost$Mail" "hot" "Z") ∈ zGW := zmem 189 (by decide +kernel) (by decide +kernel)
theorem q211 : (Jvm.Cond.fieldLink "GrownPost$Bag" (11 : Nat) "GrownPost$Bag" "mails" "[LGrownPost$Mail;") ∈ zGW := zmem 211 (by decide +kernel) (by decide +kernel)
theorem q214 : (Jvm.Cond.fieldLink "GrownPost$Bag" (22 : Nat) "GrownPost$Bag" "size" "I") ∈ zGW := zmem 214 (by decide +kernel) (by decide +kernel)
theorem q217 : (Jvm.Cond.fieldLink "GrownPost$Bag" (29 : Nat) "GrownPost$Bag" "week" "I") ∈ zGW := zmem 217 (by decide +kernel) (by decide +kernel)
theorem q220 : (Jvm.Cond.fieldLink "GrownPost$Bag" (17 : Nat) "GrownPost$Bag" "seed" "I") ∈ zGW := zmem 220 (by decide +kernel) (by decide +kernel)
theorem q222 : (Jvm.Cond.fieldLink "GrownPost$Bag" (32 : Nat) "GrownPost$Bag" "came" "I") ∈ zGW := zmem 222 (by decide +kernel) (by decide +kernel)
theorem q241 : (Jvm.Cond.fieldLink "GrownPost$Law" (9 : Nat) "GrownPost$Law" "froms" "[I") ∈ zGW := zmem 241 (by decide +kernel) (by decide +kernel)
theorem q242 : (Jvm.Cond.fieldLink "GrownPost$Law" (15 : Nat) "GrownPost$Law" "tos" "[I") ∈ zGW := zmem 242 (by decide +kernel) (by decide +kernel)
theorem q243 : (Jvm.Cond.fieldLink "GrownPost$Law" (18 : Nat) "GrownPost$Law" "ends" "[I") ∈ zGW := zmem 243 (by decide +kernel) (by decide +kernel)
theorem q244 : (Jvm.Cond.fieldLink "GrownPost$Law" (21 : Nat) "GrownPost$Law" "codes" "[I") ∈ zGW := zmem 244 (by decide +kernel) (by decide +kernel)
theorem q245 : (Jvm.Cond.fieldLink "GrownPost$Law" (24 : Nat) "GrownPost$Law" "stack" "[I") ∈ zGW := zmem 245 (by decide +kernel) (by decide +kernel)
theorem q246 : (Jvm.Cond.fieldLink "GrownPost$Law" (27 : Nat) "GrownPost$Law" "facts" "[I") ∈ zGW := zmem 246 (by decide +kernel) (by decide +kernel)
theorem q247 : (Jvm.Cond.fieldLink "GrownPost$Law" (30 : Nat) "GrownPost$Law" "codeSize" "I") ∈ zGW := zmem 247 (by decide +kernel) (by decide +kernel)
theorem q248 : (Jvm.Cond.fieldLink "GrownPost$Law" (34 : Nat) "GrownPost$Law" "size" "I") ∈ zGW := zmem 248 (by decide +kernel) (by decide +kernel)
theorem q250 : (Jvm.Cond.fieldLink "GrownPost$Law" (37 : Nat) "GrownPost$Law" "told" "Z") ∈ zGW := zmem 250 (by decide +kernel) (by decide +kernel)
theorem q271 : (Jvm.Cond.fieldLink "GrownPost$World" (12 : Nat) "GrownPost$World" "bag" "LGrownPost$Bag;") ∈ zGW := zmem 271 (by decide +kernel) (by decide +kernel)
theorem q274 : (Jvm.Cond.fieldLink "GrownPost$World" (21 : Nat) "GrownPost$World" "law" "LGrownPost$Law;") ∈ zGW := zmem 274 (by decide +kernel) (by decide +kernel)
theorem q276 : (Jvm.Cond.fieldLink "GrownPost$World" (25 : Nat) "GrownPost$World" "words" "[I") ∈ zGW := zmem 276 (by decide +kernel) (by decide +kernel)
theorem q277 : (Jvm.Cond.fieldLink "GrownPost$World" (29 : Nat) "GrownPost$World" "firsts" "[I") ∈ zGW := zmem 277 (by decide +kernel) (by decide +kernel)
theorem q278 : (Jvm.Cond.fieldLink "GrownPost$World" (32 : Nat) "GrownPost$World" "seconds" "[I") ∈ zGW := zmem 278 (by decide +kernel) (by decide +kernel)
theorem q279 : (Jvm.Cond.fieldLink "GrownPost$World" (48 : Nat) "GrownPost$World" "promises" "I") ∈ zGW := zmem 279 (by decide +kernel) (by decide +kernel)
theorem q282 : (Jvm.Cond.fieldLink "GrownPost$World" (52 : Nat) "GrownPost$World" "slip" "I") ∈ zGW := zmem 282 (by decide +kernel) (by decide +kernel)
theorem q285 : (Jvm.Cond.fieldLink "GrownPost$World" (55 : Nat) "GrownPost$World" "texts" "I") ∈ zGW := zmem 285 (by decide +kernel) (by decide +kernel)
theorem q313 : (Jvm.Cond.fieldLink "GrownPost$Memory" (11 : Nat) "GrownPost$Memory" "acts" "[LGrownPost$Bag;") ∈ zGW := zmem 313 (by decide +kernel) (by decide +kernel)
theorem q314 : (Jvm.Cond.fieldLink "GrownPost$Memory" (18 : Nat) "GrownPost$Memory" "next" "I") ∈ zGW := zmem 314 (by decide +kernel) (by decide +kernel)
theorem q315 : (Jvm.Cond.fieldLink "GrownPost$Memory" (26 : Nat) "GrownPost$Memory" "size" "I") ∈ zGW := zmem 315 (by decide +kernel) (by decide +kernel)
theorem q339 : (Jvm.Cond.fieldLink "GrownPost$Tokens" (9 : Nat) "GrownPost$Tokens" "text" "[I") ∈ zGW := zmem 339 (by decide +kernel) (by decide +kernel)
theorem q340 : (Jvm.Cond.fieldLink "GrownPost$Tokens" (15 : Nat) "GrownPost$Tokens" "codes" "[I") ∈ zGW := zmem 340 (by decide +kernel) (by decide +kernel)
theorem q341 : (Jvm.Cond.fieldLink "GrownPost$Tokens" (18 : Nat) "GrownPost$Tokens" "begins" "[I") ∈ zGW := zmem 341 (by decide +kernel) (by decide +kernel)
theorem q342 : (Jvm.Cond.fieldLink "GrownPost$Tokens" (21 : Nat) "GrownPost$Tokens" "lengths" "[I") ∈ zGW := zmem 342 (by decide +kernel) (by decide +kernel)
theorem q343 : (Jvm.Cond.fieldLink "GrownPost$Tokens" (34 : Nat) "GrownPost$Tokens" "textSize" "I") ∈ zGW := zmem 343 (by decide +kernel) (by decide +kernel)
theorem q344 : (Jvm.Cond.fieldLink "GrownPost$Tokens" (43 : Nat) "GrownPost$Tokens" "size" "I") ∈ zGW := zmem 344 (by decide +kernel) (by decide +kernel)
theorem q345 : (Jvm.Cond.fieldLink "GrownPost$Tokens" (46 : Nat) "GrownPost$Tokens" "at" "I") ∈ zGW := zmem 345 (by decide +kernel) (by decide +kernel)
theorem q346 : (Jvm.Cond.fieldLink "GrownPost$Tokens" (24 : Nat) "GrownPost$Tokens" "wrong" "I") ∈ zGW := zmem 346 (by decide +kernel) (by decide +kernel)
theorem q367 : (Jvm.Cond.fieldLink "GrownPost$PostReader" (12 : Nat) "GrownPost$PostReader" "draft" "LGrownPost$World;") ∈ zGW := zmem 367 (by decide +kernel) (by decide +kernel)
theorem q369 : (Jvm.Cond.fieldLink "GrownPost$TextReader" (12 : Nat) "GrownPost$TextReader" "tokens" "LGrownPost$Tokens;") ∈ zGW := zmem 369 (by decide +kernel) (by decide +kernel)
theorem q370 : (Jvm.Cond.fieldLink "GrownPost$LawReader" (18 : Nat) "GrownPost$LawReader" "tokens" "LGrownPost$Tokens;") ∈ zGW := zmem 370 (by decide +kernel) (by decide +kernel)
theorem q371 : (Jvm.Cond.sameField "GrownPost$LawReader" "GrownPost$TextReader" "tokens" "LGrownPost$Tokens;") ∈ zGW := zmem 371 (by decide +kernel) (by decide +kernel)
theorem q372 : (Jvm.Cond.fieldLink "GrownPost$PostReader" (18 : Nat) "GrownPost$PostReader" "tokens" "LGrownPost$Tokens;") ∈ zGW := zmem 372 (by decide +kernel) (by decide +kernel)
theorem q373 : (Jvm.Cond.sameField "GrownPost$PostReader" "GrownPost$TextReader" "tokens" "LGrownPost$Tokens;") ∈ zGW := zmem 373 (by decide +kernel) (by decide +kernel)
theorem q374 : (Jvm.Cond.fieldLink "GrownPost" (98 : Nat) "GrownPost$PostReader" "tokens" "LGrownPost$Tokens;") ∈ zGW := zmem 374 (by decide +kernel) (by decide +kernel)
theorem q375 : (Jvm.Cond.fieldLink "GrownPost" (137 : Nat) "GrownPost$LawReader" "tokens" "LGrownPost$Tokens;") ∈ zGW := zmem 375 (by decide +kernel) (by decide +kernel)
theorem q389 : (Jvm.Cond.fieldLink "GrownPost$LawReader" (12 : Nat) "GrownPost$LawReader" "draft" "LGrownPost$Law;") ∈ zGW := zmem 389 (by decide +kernel) (by decide +kernel)
theorem q403 : (Jvm.Cond.fieldLink "GrownPost$Sight" (12 : Nat) "GrownPost$Sight" "mail" "LGrownPost$Mail;") ∈ zGW := zmem 403 (by decide +kernel) (by decide +kernel)
theorem q405 : (Jvm.Cond.fieldLink "GrownPost$Sight" (26 : Nat) "GrownPost$Sight" "week" "I") ∈ zGW := zmem 405 (by decide +kernel) (by decide +kernel)
theorem q407 : (Jvm.Cond.fieldLink "GrownPost$Sight" (18 : Nat) "GrownPost$Sight" "fork" "I") ∈ zGW := zmem 407 (by decide +kernel) (by decide +kernel)
theorem q424 : (Jvm.Cond.fieldLink "GrownPost$Shelving" (9 : Nat) "GrownPost$Shelving" "loads" "[I") ∈ zGW := zmem 424 (by decide +kernel) (by decide +kernel)
theorem q425 : (Jvm.Cond.fieldLink "GrownPost$Shelving" (15 : Nat) "GrownPost$Shelving" "fewest" "[I") ∈ zGW := zmem 425 (by decide +kernel) (by decide +kernel)
theorem q426 : (Jvm.Cond.fieldLink "GrownPost$Shelving" (18 : Nat) "GrownPost$Shelving" "letters" "I") ∈ zGW := zmem 426 (by decide +kernel) (by decide +kernel)
theorem q436 : (Jvm.Cond.fieldLink "GrownPost" (9 : Nat) "GrownPost" "tape" "[I") ∈ zGW := zmem 436 (by decide +kernel) (by decide +kernel)
theorem q437 : (Jvm.Cond.fieldLink "GrownPost" (80 : Nat) "GrownPost" "tapeSize" "I") ∈ zGW := zmem 437 (by decide +kernel) (by decide +kernel)
theorem q438 : (Jvm.Cond.fieldLink "GrownPost" (13 : Nat) "GrownPost" "wrongByte" "I") ∈ zGW := zmem 438 (by decide +kernel) (by decide +kernel)
theorem q439 : (Jvm.Cond.fieldLink "GrownPost" (20 : Nat) "GrownPost" "now" "LGrownPost$World;") ∈ zGW := zmem 439 (by decide +kernel) (by decide +kernel)
theorem q440 : (Jvm.Cond.fieldLink "GrownPost" (24 : Nat) "GrownPost" "kept" "LGrownPost$World;") ∈ zGW := zmem 440 (by decide +kernel) (by decide +kernel)
theorem q441 : (Jvm.Cond.fieldLink "GrownPost" (400 : Nat) "GrownPost" "isKept" "Z") ∈ zGW := zmem 441 (by decide +kernel) (by decide +kernel)
theorem q442 : (Jvm.Cond.fieldLink "GrownPost" (30 : Nat) "GrownPost" "memory" "LGrownPost$Memory;") ∈ zGW := zmem 442 (by decide +kernel) (by decide +kernel)
theorem q443 : (Jvm.Cond.fieldLink "GrownPost" (37 : Nat) "GrownPost" "postReader" "LGrownPost$PostReader;") ∈ zGW := zmem 443 (by decide +kernel) (by decide +kernel)
theorem q444 : (Jvm.Cond.fieldLink "GrownPost" (44 : Nat) "GrownPost" "lawReader" "LGrownPost$LawReader;") ∈ zGW := zmem 444 (by decide +kernel) (by decide +kernel)
theorem q445 : (Jvm.Cond.fieldLink "GrownPost" (51 : Nat) "GrownPost" "sight" "LGrownPost$Sight;") ∈ zGW := zmem 445 (by decide +kernel) (by decide +kernel)
theorem q446 : (Jvm.Cond.fieldLink "GrownPost" (55 : Nat) "GrownPost" "otherSight" "LGrownPost$Sight;") ∈ zGW := zmem 446 (by decide +kernel) (by decide +kernel)
theorem q447 : (Jvm.Cond.fieldLink "GrownPost" (61 : Nat) "GrownPost" "trialBag" "LGrownPost$Bag;") ∈ zGW := zmem 447 (by decide +kernel) (by decide +kernel)
theorem q448 : (Jvm.Cond.fieldLink "GrownPost" (68 : Nat) "GrownPost" "shelving" "LGrownPost$Shelving;") ∈ zGW := zmem 448 (by decide +kernel) (by decide +kernel)
theorem q449 : (Jvm.Cond.fieldLink "GrownPost" (74 : Nat) "GrownPost" "lastsAhead" "[[I") ∈ zGW := zmem 449 (by decide +kernel) (by decide +kernel)
theorem q450 : (Jvm.Cond.fieldLink "GrownPost" (77 : Nat) "GrownPost" "tally" "[I") ∈ zGW := zmem 450 (by decide +kernel) (by decide +kernel)
theorem q486 : (Jvm.Cond.methodLink "GrownPost" (83 : Nat) ({ cls := "GrownPost", name := "putBytes", desc := "(I)V" } : Jvm.MethodName)) ∈ zGW := zmem 486 (by decide +kernel) (by decide +kernel)
theorem q488 : (Jvm.Cond.instanceMethod ({ cls := "GrownPost", name := "putBytes", desc := "(I)V" } : Jvm.MethodName)) ∈ zGW := zmem 488 (by decide +kernel) (by decide +kernel)
theorem q502 : (Jvm.Cond.methodLink "GrownPost" (328 : Nat) ({ cls := "GrownPost", name := "fillLastsAhead", desc := "()V" } : Jvm.MethodName)) ∈ zGW := zmem 502 (by decide +kernel) (by decide +kernel)
theorem q504 : (Jvm.Cond.instanceMethod ({ cls := "GrownPost", name := "fillLastsAhead", desc := "()V" } : Jvm.MethodName)) ∈ zGW := zmem 504 (by decide +kernel) (by decide +kernel)
theorem q506 : (Jvm.Cond.methodLink "GrownPost" (290 : Nat) ({ cls := "GrownPost$Sight", name := "look", desc := "(LGrownPost$Mail;I)V" } : Jvm.MethodName)) ∈ zGW := zmem 506 (by decide +kernel) (by decide +kernel)
theorem q507 : (Jvm.Cond.instanceMethod ({ cls := "GrownPost$Sight", name := "look", desc := "(LGrownPost$Mail;I)V" } : Jvm.MethodName)) ∈ zGW := zmem 507 (by decide +kernel) (by decide +kernel)
theorem q508 : (Jvm.Cond.selects "GrownPost$Sight" ({ cls := "GrownPost$Sight", name := "look", desc := "(LGrownPost$Mail;I)V" } : Jvm.MethodName) ({ cls := "GrownPost$Sight", name := "look", desc := "(LGrownPost$Mail;I)V" } : Jvm.MethodName)) ∈ zGW := zmem 508 (by decide +kernel) (by decide +kernel)
theorem q510 : (Jvm.Cond.methodLink "GrownPost$Sight" (22 : Nat) ({ cls := "GrownPost$Mail", name := "become", desc := "(LGrownPost$Mail;)V" } : Jvm.MethodName)) ∈ zGW := zmem 510 (by decide +kernel) (by decide +kernel)
theorem q511 : (Jvm.Cond.instanceMethod ({ cls := "GrownPost$Mail", name := "become", desc := "(LGrownPost$Mail;)V" } : Jvm.MethodName)) ∈ zGW := zmem 511 (by decide +kernel) (by decide +kernel)
theorem q512 : (Jvm.Cond.selects "GrownPost$Mail" ({ cls := "GrownPost$Mail", name := "become", desc := "(LGrownPost$Mail;)V" } : Jvm.MethodName) ({ cls := "GrownPost$Mail", name := "become", desc := "(LGrownPost$Mail;)V" } : Jvm.MethodName)) ∈ zGW := zmem 512 (by decide +kernel) (by decide +kernel)
theorem q514 : (Jvm.Cond.methodLink "GrownPost$Mail" (18 : Nat) ({ cls := "java/lang/System", name := "arraycopy", desc := "(Ljava/lang/Object;ILjava/lang/Object;II)V" } : Jvm.MethodName)) ∈ zGW := zmem 514 (by decide +kernel) (by decide +kernel)
theorem q517 : (Jvm.Cond.methodLink "GrownPost" (178 : Nat) ({ cls := "GrownPost$Mail", name := "lastKind", desc := "()I" } : Jvm.MethodName)) ∈ zGW := zmem 517 (by decide +kernel) (by decide +kernel)
theorem q518 : (Jvm.Cond.instanceMethod ({ cls := "GrownPost$Mail", name := "lastKind", desc := "()I" } : Jvm.MethodName)) ∈ zGW := zmem 518 (by decide +kernel) (by decide +kernel)
theorem q519 : (Jvm.Cond.selects "GrownPost$Mail" ({ cls := "GrownPost$Mail", name := "lastKind", desc := "()I" } : Jvm.MethodName) ({ cls := "GrownPost$Mail", name := "lastKind", desc := "()I" } : Jvm.MethodName)) ∈ zGW := zmem 519 (by decide +kernel) (by decide +kernel)
theorem q521 : (Jvm.Cond.methodLink "GrownPost$Mail" (41 : Nat) ({ cls := "GrownPost$Mail", name := "kindAt", desc := "(I)I" } : Jvm.MethodName)) ∈ zGW := zmem 521 (by decide +kernel) (by decide +kernel)
theorem q522 : (Jvm.Cond.instanceMethod ({ cls := "GrownPost$Mail", name := "kindAt", desc := "(I)I" } : Jvm.MethodName)) ∈ zGW := zmem 522 (by decide +kernel) (by decide +kernel)
theorem q523 : (Jvm.Cond.selects "GrownPost$Mail" ({ cls := "GrownPost$Mail", name := "kindAt", desc := "(I)I" } : Jvm.MethodName) ({ cls := "GrownPost$Mail", name := "kindAt", desc := "(I)I" } : Jvm.MethodName)) ∈ zGW := zmem 523 (by decide +kernel) (by decide +kernel)
theorem q525 : (Jvm.Cond.methodLink "GrownPost" (304 : Nat) ({ cls := "GrownPost$Sight", name := "goWeek", desc := "(LGrownPost$Law;)V" } : Jvm.MethodName)) ∈ zGW := zmem 525 (by decide +kernel) (by decide +kernel)
theorem q526 : (Jvm.Cond.instanceMethod ({ cls := "GrownPost$Sight", name := "goWeek", desc := "(LGrownPost$Law;)V" } : Jvm.MethodName)) ∈ zGW := zmem 526 (by decide +kernel) (by decide +kernel)
theorem q527 : (Jvm.Cond.selects "GrownPost$Sight" ({ cls := "GrownPost$Sight", name := "goWeek", desc := "(LGrownPost$Law;)V" } : Jvm.MethodName) ({ cls := "GrownPost$Sight", name := "goWeek", desc := "(LGrownPost$Law;)V" } : Jvm.MethodName)) ∈ zGW := zmem 527 (by decide +kernel) (by decide +kernel)
theorem q529 : (Jvm.Cond.methodLink "GrownPost$Sight" (44 : Nat) ({ cls := "GrownPost$Law", name := "growth", desc := "(LGrownPost$Mail;I)I" } : Jvm.MethodName)) ∈ zGW := zmem 529 (by decide +kernel) (by decide +kernel)
theorem q530 : (Jvm.Cond.instanceMethod ({ cls := "GrownPost$Law", name := "growth", desc := "(LGrownPost$Mail;I)I" } : Jvm.MethodName)) ∈ zGW := zmem 530 (by decide +kernel) (by decide +kernel)
theorem q531 : (Jvm.Cond.selects "GrownPost$Law" ({ cls := "GrownPost$Law", name := "growth", desc := "(LGrownPost$Mail;I)I" } : Jvm.MethodName) ({ cls := "GrownPost$Law", name := "growth", desc := "(LGrownPost$Mail;I)I" } : Jvm.MethodName)) ∈ zGW := zmem 531 (by decide +kernel) (by decide +kernel)
theorem q533 : (Jvm.Cond.methodLink "GrownPost$Law" (55 : Nat) ({ cls := "GrownPost$Law", name := "follows", desc := "(LGrownPost$Mail;II)I" } : Jvm.MethodName)) ∈ zGW := zmem 533 (by decide +kernel) (by decide +kernel)
theorem q535 : (Jvm.Cond.instanceMethod ({ cls := "GrownPost$Law", name := "follows", desc := "(LGrownPost$Mail;II)I" } : Jvm.MethodName)) ∈ zGW := zmem 535 (by decide +kernel) (by decide +kernel)
theorem q537 : (Jvm.Cond.methodLink "GrownPost$Law" (63 : Nat) ({ cls := "GrownPost$Mail", name := "kindAt", desc := "(I)I" } : Jvm.MethodName)) ∈ zGW := zmem 537 (by decide +kernel) (by decide +kernel)
theorem q538 : (Jvm.Cond.methodLink "GrownPost$Law" (66 : Nat) ({ cls := "GrownPost$Law", name := "learnFacts", desc := "(LGrownPost$Mail;II)V" } : Jvm.MethodName)) ∈ zGW := zmem 538 (by decide +kernel) (by decide +kernel)
theorem q540 : (Jvm.Cond.instanceMethod ({ cls := "GrownPost$Law", name := "learnFacts", desc := "(LGrownPost$Mail;II)V" } : Jvm.MethodName)) ∈ zGW := zmem 540 (by decide +kernel) (by decide +kernel)
theorem q543 : (Jvm.Cond.static ({ cls := "GrownPost", name := "seasonOf", desc := "(I)I" } : Jvm.MethodName)) ∈ zGW := zmem 543 (by decide +kernel) (by decide +kernel)
theorem q545 : (Jvm.Cond.methodLink "GrownPost$Law" (70 : Nat) ({ cls := "GrownPost$Law", name := "isMet", desc := "(I)Z" } : Jvm.MethodName)) ∈ zGW := zmem 545 (by decide +kernel) (by decide +kernel)
theorem q547 : (Jvm.Cond.instanceMethod ({ cls := "GrownPost$Law", name := "isMet", desc := "(I)Z" } : Jvm.MethodName)) ∈ zGW := zmem 547 (by decide +kernel) (by decide +kernel)
theorem q549 : (Jvm.Cond.methodLink "GrownPost$Law" (86 : Nat) ({ cls := "GrownPost$Law", name := "join", desc := "(III)I" } : Jvm.MethodName)) ∈ zGW := zmem 549 (by decide +kernel) (by decide +kernel)
theorem q550 : (Jvm.Cond.static ({ cls := "GrownPost$Law", name := "join", desc := "(III)I" } : Jvm.MethodName)) ∈ zGW := zmem 550 (by decide +kernel) (by decide +kernel)
theorem q552 : (Jvm.Cond.methodLink "GrownPost$Sight" (33 : Nat) ({ cls := "GrownPost$Mail", name := "add", desc := "(II)V" } : Jvm.MethodName)) ∈ zGW := zmem 552 (by decide +kernel) (by decide +kernel)
theorem q553 : (Jvm.Cond.instanceMethod ({ cls := "GrownPost$Mail", name := "add", desc := "(II)V" } : Jvm.MethodName)) ∈ zGW := zmem 553 (by decide +kernel) (by decide +kernel)
theorem q554 : (Jvm.Cond.selects "GrownPost$Mail" ({ cls := "GrownPost$Mail", name := "add", desc := "(II)V" } : Jvm.MethodName) ({ cls := "GrownPost$Mail", name := "add", desc := "(II)V" } : Jvm.MethodName)) ∈ zGW := zmem 554 (by decide +kernel) (by decide +kernel)
theorem q556 : (Jvm.Cond.methodLink "GrownPost$Sight" (50 : Nat) ({ cls := "java/lang/Math", name := "min", desc := "(II)I" } : Jvm.MethodName)) ∈ zGW := zmem 556 (by decide +kernel) (by decide +kernel)
theorem q559 : (Jvm.Cond.methodLink "GrownPost" (331 : Nat) ({ cls := "GrownPost$Bag", name := "areSealed", desc := "(II)Z" } : Jvm.MethodName)) ∈ zGW := zmem 559 (by decide +kernel) (by decide +kernel)
theorem q560 : (Jvm.Cond.instanceMethod ({ cls := "GrownPost$Bag", name := "areSealed", desc := "(II)Z" } : Jvm.MethodName)) ∈ zGW := zmem 560 (by decide +kernel) (by decide +kernel)
theorem q561 : (Jvm.Cond.selects "GrownPost$Bag" ({ cls := "GrownPost$Bag", name := "areSealed", desc := "(II)Z" } : Jvm.MethodName) ({ cls := "GrownPost$Bag", name := "areSealed", desc := "(II)Z" } : Jvm.MethodName)) ∈ zGW := zmem 561 (by decide +kernel) (by decide +kernel)
theorem q563 : (Jvm.Cond.methodLink "GrownPost$Bag" (64 : Nat) ({ cls := "GrownPost$Bag", name := "openSet", desc := "()I" } : Jvm.MethodName)) ∈ zGW := zmem 563 (by decide +kernel) (by decide +kernel)
theorem q564 : (Jvm.Cond.instanceMethod ({ cls := "GrownPost$Bag", name := "openSet", desc := "()I" } : Jvm.MethodName)) ∈ zGW := zmem 564 (by decide +kernel) (by decide +kernel)
theorem q565 : (Jvm.Cond.selects "GrownPost$Bag" ({ cls := "GrownPost$Bag", name := "openSet", desc := "()I" } : Jvm.MethodName) ({ cls := "GrownPost$Bag", name := "openSet", desc := "()I" } : Jvm.MethodName)) ∈ zGW := zmem 565 (by decide +kernel) (by decide +kernel)
theorem q567 : (Jvm.Cond.methodLink "GrownPost" (334 : Nat) ({ cls := "GrownPost", name := "firstMeeting", desc := "(II)I" } : Jvm.MethodName)) ∈ zGW := zmem 567 (by decide +kernel) (by decide +kernel)
theorem q569 : (Jvm.Cond.instanceMethod ({ cls := "GrownPost", name := "firstMeeting", desc := "(II)I" } : Jvm.MethodName)) ∈ zGW := zmem 569 (by decide +kernel) (by decide +kernel)
theorem q575 : (Jvm.Cond.methodLink "GrownPost" (174 : Nat) ({ cls := "GrownPost$World", name := "wordsIn", desc := "(LGrownPost$Mail;)I" } : Jvm.MethodName)) ∈ zGW := zmem 575 (by decide +kernel) (by decide +kernel)
theorem q576 : (Jvm.Cond.instanceMethod ({ cls := "GrownPost$World", name := "wordsIn", desc := "(LGrownPost$Mail;)I" } : Jvm.MethodName)) ∈ zGW := zmem 576 (by decide +kernel) (by decide +kernel)
theorem q577 : (Jvm.Cond.selects "GrownPost$World" ({ cls := "GrownPost$World", name := "wordsIn", desc := "(LGrownPost$Mail;)I" } : Jvm.MethodName) ({ cls := "GrownPost$World", name := "wordsIn", desc := "(LGrownPost$Mail;)I" } : Jvm.MethodName)) ∈ zGW := zmem 577 (by decide +kernel) (by decide +kernel)
theorem q579 : (Jvm.Cond.methodLink "GrownPost$World" (66 : Nat) ({ cls := "GrownPost$World", name := "wordsFor", desc := "(I)I" } : Jvm.MethodName)) ∈ zGW := zmem 579 (by decide +kernel) (by decide +kernel)
theorem q580 : (Jvm.Cond.instanceMethod ({ cls := "GrownPost$World", name := "wordsFor", desc := "(I)I" } : Jvm.MethodName)) ∈ zGW := zmem 580 (by decide +kernel) (by decide +kernel)
theorem q581 : (Jvm.Cond.selects "GrownPost$World" ({ cls := "GrownPost$World", name := "wordsFor", desc := "(I)I" } : Jvm.MethodName) ({ cls := "GrownPost$World", name := "wordsFor", desc := "(I)I" } : Jvm.MethodName)) ∈ zGW := zmem 581 (by decide +kernel) (by decide +kernel)
theorem q587 : (Jvm.Cond.methodLink "GrownPost" (393 : Nat) ({ cls := "GrownPost$Mail", name := "linesOf", desc := "(I)I" } : Jvm.MethodName)) ∈ zGW := zmem 587 (by decide +kernel) (by decide +kernel)
theorem q588 : (Jvm.Cond.instanceMethod ({ cls := "GrownPost$Mail", name := "linesOf", desc := "(I)I" } : Jvm.MethodName)) ∈ zGW := zmem 588 (by decide +kernel) (by decide +kernel)
theorem q589 : (Jvm.Cond.selects "GrownPost$Mail" ({ cls := "GrownPost$Mail", name := "linesOf", desc := "(I)I" } : Jvm.MethodName) ({ cls := "GrownPost$Mail", name := "linesOf", desc := "(I)I" } : Jvm.MethodName)) ∈ zGW := zmem 589 (by decide +kernel) (by decide +kernel)
theorem q599 : (Jvm.Cond.methodLink "GrownPost" (396 : Nat) ({ cls := "GrownPost$Memory", name := "takeBack", desc := "(LGrownPost$Bag;)Z" } : Jvm.MethodName)) ∈ zGW := zmem 599 (by decide +kernel) (by decide +kernel)
theorem q600 : (Jvm.Cond.instanceMethod ({ cls := "GrownPost$Memory", name := "takeBack", desc := "(LGrownPost$Bag;)Z" } : Jvm.MethodName)) ∈ zGW := zmem 600 (by decide +kernel) (by decide +kernel)
theorem q601 : (Jvm.Cond.selects "GrownPost$Memory" ({ cls := "GrownPost$Memory", name := "takeBack", desc := "(LGrownPost$Bag;)Z" } : Jvm.MethodName) ({ cls := "GrownPost$Memory", name := "takeBack", desc := "(LGrownPost$Bag;)Z" } : Jvm.MethodName)) ∈ zGW := zmem 601 (by decide +kernel) (by decide +kernel)
theorem q603 : (Jvm.Cond.methodLink "GrownPost$Memory" (22 : Nat) ({ cls := "GrownPost$Bag", name := "become", desc := "(LGrownPost$Bag;)V" } : Jvm.MethodName)) ∈ zGW := zmem 603 (by decide +kernel) (by decide +kernel)
theorem q604 : (Jvm.Cond.instanceMethod ({ cls := "GrownPost$Bag", name := "become", desc := "(LGrownPost$Bag;)V" } : Jvm.MethodName)) ∈ zGW := zmem 604 (by decide +kernel) (by decide +kernel)
theorem q605 : (Jvm.Cond.selects "GrownPost$Bag" ({ cls := "GrownPost$Bag", name := "become", desc := "(LGrownPost$Bag;)V" } : Jvm.MethodName) ({ cls := "GrownPost$Bag", name := "become", desc := "(LGrownPost$Bag;)V" } : Jvm.MethodName)) ∈ zGW := zmem 605 (by decide +kernel) (by decide +kernel)
theorem q607 : (Jvm.Cond.methodLink "GrownPost$Bag" (25 : Nat) ({ cls := "GrownPost$Mail", name := "become", desc := "(LGrownPost$Mail;)V" } : Jvm.MethodName)) ∈ zGW := zmem 607 (by decide +kernel) (by decide +kernel)
theorem q612 : (Jvm.Cond.methodLink "GrownPost" (90 : Nat) ({ cls := "GrownPost$World", name := "become", desc := "(LGrownPost$World;)V" } : Jvm.MethodName)) ∈ zGW := zmem 612 (by decide +kernel) (by decide +kernel)
theorem q613 : (Jvm.Cond.instanceMethod ({ cls := "GrownPost$World", name := "become", desc := "(LGrownPost$World;)V" } : Jvm.MethodName)) ∈ zGW := zmem 613 (by decide +kernel) (by decide +kernel)
theorem q614 : (Jvm.Cond.selects "GrownPost$World" ({ cls := "GrownPost$World", name := "become", desc := "(LGrownPost$World;)V" } : Jvm.MethodName) ({ cls := "GrownPost$World", name := "become", desc := "(LGrownPost$World;)V" } : Jvm.MethodName)) ∈ zGW := zmem 614 (by decide +kernel) (by decide +kernel)
theorem q616 : (Jvm.Cond.methodLink "GrownPost$World" (35 : Nat) ({ cls := "GrownPost$Bag", name := "become", desc := "(LGrownPost$Bag;)V" } : Jvm.MethodName)) ∈ zGW := zmem 616 (by decide +kernel) (by decide +kernel)
theorem q617 : (Jvm.Cond.methodLink "GrownPost$World" (39 : Nat) ({ cls := "GrownPost$Law", name := "become", desc := "(LGrownPost$Law;)V" } : Jvm.MethodName)) ∈ zGW := zmem 617 (by decide +kernel) (by decide +kernel)
theorem q618 : (Jvm.Cond.instanceMethod ({ cls := "GrownPost$Law", name := "become", desc := "(LGrownPost$Law;)V" } : Jvm.MethodName)) ∈ zGW := zmem 618 (by decide +kernel) (by decide +kernel)
theorem q619 : (Jvm.Cond.selects "GrownPost$Law" ({ cls := "GrownPost$Law", name := "become", desc := "(LGrownPost$Law;)V" } : Jvm.MethodName) ({ cls := "GrownPost$Law", name := "become", desc := "(LGrownPost$Law;)V" } : Jvm.MethodName)) ∈ zGW := zmem 619 (by decide +kernel) (by decide +kernel)
theorem q621 : (Jvm.Cond.methodLink "GrownPost$Law" (41 : Nat) ({ cls := "java/lang/System", name := "arraycopy", desc := "(Ljava/lang/Object;ILjava/lang/Object;II)V" } : Jvm.MethodName)) ∈ zGW := zmem 621 (by decide +kernel) (by decide +kernel)
theorem q622 : (Jvm.Cond.methodLink "GrownPost$World" (42 : Nat) ({ cls := "java/lang/System", name := "arraycopy", desc := "(Ljava/lang/Object;ILjava/lang/Object;II)V" } : Jvm.MethodName)) ∈ zGW := zmem 622 (by decide +kernel) (by decide +kernel)
theorem q627 : (Jvm.Cond.methodLink "GrownPost" (125 : Nat) ({ cls := "GrownPost$Memory", name := "forget", desc := "()V" } : Jvm.MethodName)) ∈ zGW := zmem 627 (by decide +kernel) (by decide +kernel)
theorem q628 : (Jvm.Cond.instanceMethod ({ cls := "GrownPost$Memory", name := "forget", desc := "()V" } : Jvm.MethodName)) ∈ zGW := zmem 628 (by decide +kernel) (by decide +kernel)
theorem q629 : (Jvm.Cond.selects "GrownPost$Memory" ({ cls := "GrownPost$Memory", name := "forget", desc := "()V" } : Jvm.MethodName) ({ cls := "GrownPost$Memory", name := "forget", desc := "()V" } : Jvm.MethodName)) ∈ zGW := zmem 629 (by decide +kernel) (by decide +kernel)
theorem q635 : (Jvm.Cond.methodLink "GrownPost" (387 : Nat) ({ cls := "GrownPost$Bag", name := "linesInAll", desc := "()I" } : Jvm.MethodName)) ∈ zGW := zmem 635 (by decide +kernel) (by decide +kernel)
theorem q636 : (Jvm.Cond.instanceMethod ({ cls := "GrownPost$Bag", name := "linesInAll", desc := "()I" } : Jvm.MethodName)) ∈ zGW := zmem 636 (by decide +kernel) (by decide +kernel)
theorem q637 : (Jvm.Cond.selects "GrownPost$Bag" ({ cls := "GrownPost$Bag", name := "linesInAll", desc := "()I" } : Jvm.MethodName) ({ cls := "GrownPost$Bag", name := "linesInAll", desc := "()I" } : Jvm.MethodName)) ∈ zGW := zmem 637 (by decide +kernel) (by decide +kernel)
theorem q639 : (Jvm.Cond.methodLink "GrownPost" (406 : Nat) ({ cls := "GrownPost$Bag", name := "openSet", desc := "()I" } : Jvm.MethodName)) ∈ zGW := zmem 639 (by decide +kernel) (by decide +kernel)
theorem q640 : (Jvm.Cond.methodLink "GrownPost" (409 : Nat) ({ cls := "GrownPost$Bag", name := "hotSet", desc := "()I" } : Jvm.MethodName)) ∈ zGW := zmem 640 (by decide +kernel) (by decide +kernel)
theorem q641 : (Jvm.Cond.instanceMethod ({ cls := "GrownPost$Bag", name := "hotSet", desc := "()I" } : Jvm.MethodName)) ∈ zGW := zmem 641 (by decide +kernel) (by decide +kernel)
theorem q642 : (Jvm.Cond.selects "GrownPost$Bag" ({ cls := "GrownPost$Bag", name := "hotSet", desc := "()I" } : Jvm.MethodName) ({ cls := "GrownPost$Bag", name := "hotSet", desc := "()I" } : Jvm.MethodName)) ∈ zGW := zmem 642 (by decide +kernel) (by decide +kernel)
theorem q653 : (Jvm.Cond.methodLink "GrownPost" (94 : Nat) ({ cls := "GrownPost$PostReader", name := "readText", desc := "([III)Z" } : Jvm.MethodName)) ∈ zGW := zmem 653 (by decide +kernel) (by decide +kernel)
theorem q654 : (Jvm.Cond.sameMethod "GrownPost$PostReader" "GrownPost$TextReader" "readText" "([III)Z") ∈ zGW := zmem 654 (by decide +kernel) (by decide +kernel)
theorem q656 : (Jvm.Cond.selects "GrownPost$PostReader" ({ cls := "GrownPost$PostReader", name := "readText", desc := "([III)Z" } : Jvm.MethodName) ({ cls := "GrownPost$TextReader", name := "readText", desc := "([III)Z" } : Jvm.MethodName)) ∈ zGW := zmem 656 (by decide +kernel) (by decide +kernel)
theorem q657 : (Jvm.Cond.instanceMethod ({ cls := "GrownPost$TextReader", name := "readText", desc := "([III)Z" } : Jvm.MethodName)) ∈ zGW := zmem 657 (by decide +kernel) (by decide +kernel)
theorem q659 : (Jvm.Cond.methodLink "GrownPost$TextReader" (18 : Nat) ({ cls := "GrownPost$Tokens", name := "scan", desc := "([II)V" } : Jvm.MethodName)) ∈ zGW := zmem 659 (by decide +kernel) (by decide +kernel)
theorem q660 : (Jvm.Cond.instanceMethod ({ cls := "GrownPost$Tokens", name := "scan", desc := "([II)V" } : Jvm.MethodName)) ∈ zGW := zmem 660 (by decide +kernel) (by decide +kernel)
theorem q661 : (Jvm.Cond.selects "GrownPost$Tokens" ({ cls := "GrownPost$Tokens", name := "scan", desc := "([II)V" } : Jvm.MethodName) ({ cls := "GrownPost$Tokens", name := "scan", desc := "([II)V" } : Jvm.MethodName)) ∈ zGW := zmem 661 (by decide +kernel) (by decide +kernel)
theorem q663 : (Jvm.Cond.methodLink "GrownPost$Tokens" (28 : Nat) ({ cls := "java/lang/Math", name := "min", desc := "(II)I" } : Jvm.MethodName)) ∈ zGW := zmem 663 (by decide +kernel) (by decide +kernel)
theorem q664 : (Jvm.Cond.methodLink "GrownPost$Tokens" (37 : Nat) ({ cls := "java/lang/System", name := "arraycopy", desc := "(Ljava/lang/Object;ILjava/lang/Object;II)V" } : Jvm.MethodName)) ∈ zGW := zmem 664 (by decide +kernel) (by decide +kernel)
theorem q665 : (Jvm.Cond.methodLink "GrownPost$Tokens" (49 : Nat) ({ cls := "GrownPost$Tokens", name := "endOf", desc := "(I)I" } : Jvm.MethodName)) ∈ zGW := zmem 665 (by decide +kernel) (by decide +kernel)
theorem q667 : (Jvm.Cond.instanceMethod ({ cls := "GrownPost$Tokens", name := "endOf", desc := "(I)I" } : Jvm.MethodName)) ∈ zGW := zmem 667 (by decide +kernel) (by decide +kernel)
theorem q669 : (Jvm.Cond.methodLink "GrownPost$Tokens" (60 : Nat) ({ cls := "GrownPost$Tokens", name := "sortOf", desc := "(I)I" } : Jvm.MethodName)) ∈ zGW := zmem 669 (by decide +kernel) (by decide +kernel)
theorem q670 : (Jvm.Cond.static ({ cls := "GrownPost$Tokens", name := "sortOf", desc := "(I)I" } : Jvm.MethodName)) ∈ zGW := zmem 670 (by decide +kernel) (by decide +kernel)
theorem q672 : (Jvm.Cond.methodLink "GrownPost$Tokens" (53 : Nat) ({ cls := "GrownPost$Tokens", name := "addToken", desc := "(II)V" } : Jvm.MethodName)) ∈ zGW := zmem 672 (by decide +kernel) (by decide +kernel)
theorem q674 : (Jvm.Cond.instanceMethod ({ cls := "GrownPost$Tokens", name := "addToken", desc := "(II)V" } : Jvm.MethodName)) ∈ zGW := zmem 674 (by decide +kernel) (by decide +kernel)
theorem q676 : (Jvm.Cond.methodLink "GrownPost$Tokens" (57 : Nat) ({ cls := "GrownPost$Tokens", name := "codeOf", desc := "(II)I" } : Jvm.MethodName)) ∈ zGW := zmem 676 (by decide +kernel) (by decide +kernel)
theorem q678 : (Jvm.Cond.instanceMethod ({ cls := "GrownPost$Tokens", name := "codeOf", desc := "(II)I" } : Jvm.MethodName)) ∈ zGW := zmem 678 (by decide +kernel) (by decide +kernel)
theorem q680 : (Jvm.Cond.methodLink "GrownPost$Tokens" (63 : Nat) ({ cls := "GrownPost$Tokens", name := "wordCode", desc := "(II)I" } : Jvm.MethodName)) ∈ zGW := zmem 680 (by decide +kernel) (by decide +kernel)
theorem q682 : (Jvm.Cond.instanceMethod ({ cls := "GrownPost$Tokens", name := "wordCode", desc := "(II)I" } : Jvm.MethodName)) ∈ zGW := zmem 682 (by decide +kernel) (by decide +kernel)
theorem q685 : (Jvm.Cond.methodLink "GrownPost$Tokens" (71 : Nat) ({ cls := "java/lang/String", name := "length", desc := "()I" } : Jvm.MethodName)) ∈ zGW := zmem 685 (by decide +kernel) (by decide +kernel)
theorem q686 : (Jvm.Cond.instanceMethod ({ cls := "java/lang/String", name := "length", desc := "()I" } : Jvm.MethodName)) ∈ zGW := zmem 686 (by decide +kernel) (by decide +kernel)
theorem q687 : (Jvm.Cond.selects "java/lang/String" ({ cls := "java/lang/String", name := "length", desc := "()I" } : Jvm.MethodName) ({ cls := "java/lang/String", name := "length", desc := "()I" } : Jvm.MethodName)) ∈ zGW := zmem 687 (by decide +kernel) (by decide +kernel)
theorem q688 : (Jvm.Cond.code ({ cls := "java/lang/String", name := "length", desc := "()I" } : Jvm.MethodName) prog_25_method_54_code (1 : Nat) (Option.some Jvm.ClassFile.FieldType.int)) ∈ zGW := zmem 688 (by decide +kernel) (by decide +kernel)
theorem q689 : (Jvm.Cond.methodLink "java/lang/String" (335 : Nat) ({ cls := "java/lang/String", name := "coder", desc := "()B" } : Jvm.MethodName)) ∈ zGW := zmem 689 (by decide +kernel) (by decide +kernel)
theorem q690 : (Jvm.Cond.instanceMethod ({ cls := "java/lang/String", name := "coder", desc := "()B" } : Jvm.MethodName)) ∈ zGW := zmem 690 (by decide +kernel) (by decide +kernel)
theorem q691 : (Jvm.Cond.selects "java/lang/String" ({ cls := "java/lang/String", name := "coder", desc := "()B" } : Jvm.MethodName) ({ cls := "java/lang/String", name := "coder", desc := "()B" } : Jvm.MethodName)) ∈ zGW := zmem 691 (by decide +kernel) (by decide +kernel)
theorem q692 : (Jvm.Cond.code ({ cls := "java/lang/String", name := "coder", desc := "()B" } : Jvm.MethodName) prog_25_method_152_code (1 : Nat) (Option.some Jvm.ClassFile.FieldType.byte)) ∈ zGW := zmem 692 (by decide +kernel) (by decide +kernel)
theorem q693 : (Jvm.Cond.fieldLink "java/lang/String" (38 : Nat) "java/lang/String" "COMPACT_STRINGS" "Z") ∈ zGW := zmem 693 (by decide +kernel) (by decide +kernel)
theorem q695 : (Jvm.Cond.methodLink "GrownPost$Tokens" (77 : Nat) ({ cls := "java/lang/String", name := "charAt", desc := "(I)C" } : Jvm.MethodName)) ∈ zGW := zmem 695 (by decide +kernel) (by decide +kernel)
theorem q696 : (Jvm.Cond.instanceMethod ({ cls := "java/lang/String", name := "charAt", desc := "(I)C" } : Jvm.MethodName)) ∈ zGW := zmem 696 (by decide +kernel) (by decide +kernel)
theorem q697 : (Jvm.Cond.selects "java/lang/String" ({ cls := "java/lang/String", name := "charAt", desc := "(I)C" } : Jvm.MethodName) ({ cls := "java/lang/String", name := "charAt", desc := "(I)C" } : Jvm.MethodName)) ∈ zGW := zmem 697 (by decide +kernel) (by decide +kernel)
theorem q698 : (Jvm.Cond.code ({ cls := "java/lang/String", name := "charAt", desc := "(I)C" } : Jvm.MethodName) prog_25_method_56_code (2 : Nat) (Option.some Jvm.ClassFile.FieldType.char)) ∈ zGW := zmem 698 (by decide +kernel) (by decide +kernel)
theorem q699 : (Jvm.Cond.methodLink "java/lang/String" (492 : Nat) ({ cls := "java/lang/String", name := "isLatin1", desc := "()Z" } : Jvm.MethodName)) ∈ zGW := zmem 699 (by decide +kernel) (by decide +kernel)
theorem q700 : (Jvm.Cond.instanceMethod ({ cls := "java/lang/String", name := "isLatin1", desc := "()Z" } : Jvm.MethodName)) ∈ zGW := zmem 700 (by decide +kernel) (by decide +kernel)
theorem q701 : (Jvm.Cond.selects "java/lang/String" ({ cls := "java/lang/String", name := "isLatin1", desc := "()Z" } : Jvm.MethodName) ({ cls := "java/lang/String", name := "isLatin1", desc := "()Z" } : Jvm.MethodName)) ∈ zGW := zmem 701 (by decide +kernel) (by decide +kernel)
theorem q702 : (Jvm.Cond.code ({ cls := "java/lang/String", name := "isLatin1", desc := "()Z" } : Jvm.MethodName) prog_25_method_154_code (1 : Nat) (Option.some Jvm.ClassFile.FieldType.boolean)) ∈ zGW := zmem 702 (by decide +kernel) (by decide +kernel)
theorem q703 : (Jvm.Cond.methodLink "java/lang/String" (495 : Nat) ({ cls := "java/lang/StringLatin1", name := "charAt", desc := "([BI)C" } : Jvm.MethodName)) ∈ zGW := zmem 703 (by decide +kernel) (by decide +kernel)
theorem q704 : (Jvm.Cond.static ({ cls := "java/lang/StringLatin1", name := "charAt", desc := "([BI)C" } : Jvm.MethodName)) ∈ zGW := zmem 704 (by decide +kernel) (by decide +kernel)
theorem q705 : (Jvm.Cond.code ({ cls := "java/lang/StringLatin1", name := "charAt", desc := "([BI)C" } : Jvm.MethodName) prog_26_method_2_code (2 : Nat) (Option.some Jvm.ClassFile.FieldType.char)) ∈ zGW := zmem 705 (by decide +kernel) (by decide +kernel)
theorem q706 : (Jvm.Cond.methodLink "java/lang/StringLatin1" (9 : Nat) ({ cls := "java/lang/String", name := "checkIndex", desc := "(II)V" } : Jvm.MethodName)) ∈ zGW := zmem 706 (by decide +kernel) (by decide +kernel)
theorem q707 : (Jvm.Cond.static ({ cls := "java/lang/String", name := "checkIndex", desc := "(II)V" } : Jvm.MethodName)) ∈ zGW := zmem 707 (by decide +kernel) (by decide +kernel)
theorem q708 : (Jvm.Cond.code ({ cls := "java/lang/String", name := "checkIndex", desc := "(II)V" } : Jvm.MethodName) prog_25_method_155_code (2 : Nat) (Option.none : Option Jvm.ClassFile.FieldType)) ∈ zGW := zmem 708 (by decide +kernel) (by decide +kernel)
theorem q709 : (Jvm.Cond.fieldLink "java/lang/String" (1053 : Nat) "jdk/internal/util/Preconditions" "SIOOBE_FORMATTER" "Ljava/util/function/BiFunction;") ∈ zGW := zmem 709 (by decide +kernel) (by decide +kernel)
theorem q711 : (Jvm.Cond.methodLink "java/lang/String" (1059 : Nat) ({ cls := "jdk/internal/util/Preconditions", name := "checkIndex", desc := "(IILjava/util/function/BiFunction;)I" } : Jvm.MethodName)) ∈ zGW := zmem 711 (by decide +kernel) (by decide +kernel)
theorem q712 : (Jvm.Cond.static ({ cls := "jdk/internal/util/Preconditions", name := "checkIndex", desc := "(IILjava/util/function/BiFunction;)I" } : Jvm.MethodName)) ∈ zGW := zmem 712 (by decide +kernel) (by decide +kernel)
theorem q713 : (Jvm.Cond.code ({ cls := "jdk/internal/util/Preconditions", name := "checkIndex", desc := "(IILjava/util/function/BiFunction;)I" } : Jvm.MethodName) prog_34_method_11_code (3 : Nat) (Option.some Jvm.ClassFile.FieldType.int)) ∈ zGW := zmem 713 (by decide +kernel) (by decide +kernel)
theorem q733 : (Jvm.Cond.methodLink "GrownPost$Tokens" (81 : Nat) ({ cls := "GrownPost$Tokens", name := "isKnown", desc := "(III)Z" } : Jvm.MethodName)) ∈ zGW := zmem 733 (by decide +kernel) (by decide +kernel)
theorem q735 : (Jvm.Cond.instanceMethod ({ cls := "GrownPost$Tokens", name := "isKnown", desc := "(III)Z" } : Jvm.MethodName)) ∈ zGW := zmem 735 (by decide +kernel) (by decide +kernel)
theorem q737 : (Jvm.Cond.methodLink "GrownPost$Tokens" (66 : Nat) ({ cls := "GrownPost$Tokens", name := "numberCode", desc := "(II)I" } : Jvm.MethodName)) ∈ zGW := zmem 737 (by decide +kernel) (by decide +kernel)
theorem q739 : (Jvm.Cond.instanceMethod ({ cls := "GrownPost$Tokens", name := "numberCode", desc := "(II)I" } : Jvm.MethodName)) ∈ zGW := zmem 739 (by decide +kernel) (by decide +kernel)
theorem q741 : (Jvm.Cond.methodLink "GrownPost$TextReader" (22 : Nat) ({ cls := "GrownPost$Tokens", name := "code", desc := "()I" } : Jvm.MethodName)) ∈ zGW := zmem 741 (by decide +kernel) (by decide +kernel)
theorem q742 : (Jvm.Cond.instanceMethod ({ cls := "GrownPost$Tokens", name := "code", desc := "()I" } : Jvm.MethodName)) ∈ zGW := zmem 742 (by decide +kernel) (by decide +kernel)
theorem q743 : (Jvm.Cond.selects "GrownPost$Tokens" ({ cls := "GrownPost$Tokens", name := "code", desc := "()I" } : Jvm.MethodName) ({ cls := "GrownPost$Tokens", name := "code", desc := "()I" } : Jvm.MethodName)) ∈ zGW := zmem 743 (by decide +kernel) (by decide +kernel)
theorem q745 : (Jvm.Cond.methodLink "GrownPost$TextReader" (26 : Nat) ({ cls := "GrownPost$TextReader", name := "readLine", desc := "()Z" } : Jvm.MethodName)) ∈ zGW := zmem 745 (by decide +kernel) (by decide +kernel)
theorem q747 : (Jvm.Cond.sameMethod "GrownPost$TextReader" "GrownPost$TextReader" "readLine" "()Z") ∈ zGW := zmem 747 (by decide +kernel) (by decide +kernel)
theorem q748 : (Jvm.Cond.selects "GrownPost$LawReader" ({ cls := "GrownPost$TextReader", name := "readLine", desc := "()Z" } : Jvm.MethodName) ({ cls := "GrownPost$LawReader", name := "readLine", desc := "()Z" } : Jvm.MethodName)) ∈ zGW := zmem 748 (by decide +kernel) (by decide +kernel)
theorem q749 : (Jvm.Cond.instanceMethod ({ cls := "GrownPost$LawReader", name := "readLine", desc := "()Z" } : Jvm.MethodName)) ∈ zGW := zmem 749 (by decide +kernel) (by decide +kernel)
theorem q751 : (Jvm.Cond.methodLink "GrownPost$LawReader" (22 : Nat) ({ cls := "GrownPost$Tokens", name := "takeKind", desc := "()I" } : Jvm.MethodName)) ∈ zGW := zmem 751 (by decide +kernel) (by decide +kernel)
theorem q752 : (Jvm.Cond.instanceMethod ({ cls := "GrownPost$Tokens", name := "takeKind", desc := "()I" } : Jvm.MethodName)) ∈ zGW := zmem 752 (by decide +kernel) (by decide +kernel)
theorem q753 : (Jvm.Cond.selects "GrownPost$Tokens" ({ cls := "GrownPost$Tokens", name := "takeKind", desc := "()I" } : Jvm.MethodName) ({ cls := "GrownPost$Tokens", name := "takeKind", desc := "()I" } : Jvm.MethodName)) ∈ zGW := zmem 753 (by decide +kernel) (by decide +kernel)
theorem q755 : (Jvm.Cond.methodLink "GrownPost$Tokens" (92 : Nat) ({ cls := "GrownPost$Tokens", name := "countKinds", desc := "()I" } : Jvm.MethodName)) ∈ zGW := zmem 755 (by decide +kernel) (by decide +kernel)
theorem q756 : (Jvm.Cond.instanceMethod ({ cls := "GrownPost$Tokens", name := "countKinds", desc := "()I" } : Jvm.MethodName)) ∈ zGW := zmem 756 (by decide +kernel) (by decide +kernel)
theorem q757 : (Jvm.Cond.selects "GrownPost$Tokens" ({ cls := "GrownPost$Tokens", name := "countKinds", desc := "()I" } : Jvm.MethodName) ({ cls := "GrownPost$Tokens", name := "countKinds", desc := "()I" } : Jvm.MethodName)) ∈ zGW := zmem 757 (by decide +kernel) (by decide +kernel)
theorem q759 : (Jvm.Cond.methodLink "GrownPost$Tokens" (95 : Nat) ({ cls := "GrownPost$Tokens", name := "kindIn", desc := "(I)I" } : Jvm.MethodName)) ∈ zGW := zmem 759 (by decide +kernel) (by decide +kernel)
theorem q760 : (Jvm.Cond.instanceMethod ({ cls := "GrownPost$Tokens", name := "kindIn", desc := "(I)I" } : Jvm.MethodName)) ∈ zGW := zmem 760 (by decide +kernel) (by decide +kernel)
theorem q761 : (Jvm.Cond.selects "GrownPost$Tokens" ({ cls := "GrownPost$Tokens", name := "kindIn", desc := "(I)I" } : Jvm.MethodName) ({ cls := "GrownPost$Tokens", name := "kindIn", desc := "(I)I" } : Jvm.MethodName)) ∈ zGW := zmem 761 (by decide +kernel) (by decide +kernel)
theorem q763 : (Jvm.Cond.methodLink "GrownPost$Tokens" (85 : Nat) ({ cls := "GrownPost$Tokens", name := "fail", desc := "()Z" } : Jvm.MethodName)) ∈ zGW := zmem 763 (by decide +kernel) (by decide +kernel)
theorem q764 : (Jvm.Cond.instanceMethod ({ cls := "GrownPost$Tokens", name := "fail", desc := "()Z" } : Jvm.MethodName)) ∈ zGW := zmem 764 (by decide +kernel) (by decide +kernel)
theorem q765 : (Jvm.Cond.selects "GrownPost$Tokens" ({ cls := "GrownPost$Tokens", name := "fail", desc := "()Z" } : Jvm.MethodName) ({ cls := "GrownPost$Tokens", name := "fail", desc := "()Z" } : Jvm.MethodName)) ∈ zGW := zmem 765 (by decide +kernel) (by decide +kernel)
theorem q767 : (Jvm.Cond.methodLink "GrownPost$Tokens" (89 : Nat) ({ cls := "GrownPost$Tokens", name := "step", desc := "()V" } : Jvm.MethodName)) ∈ zGW := zmem 767 (by decide +kernel) (by decide +kernel)
theorem q768 : (Jvm.Cond.instanceMethod ({ cls := "GrownPost$Tokens", name := "step", desc := "()V" } : Jvm.MethodName)) ∈ zGW := zmem 768 (by decide +kernel) (by decide +kernel)
theorem q769 : (Jvm.Cond.selects "GrownPost$Tokens" ({ cls := "GrownPost$Tokens", name := "step", desc := "()V" } : Jvm.MethodName) ({ cls := "GrownPost$Tokens", name := "step", desc := "()V" } : Jvm.MethodName)) ∈ zGW := zmem 769 (by decide +kernel) (by decide +kernel)
theorem q771 : (Jvm.Cond.methodLink "GrownPost$LawReader" (28 : Nat) ({ cls := "GrownPost$Tokens", name := "pass", desc := "(I)Z" } : Jvm.MethodName)) ∈ zGW := zmem 771 (by decide +kernel) (by decide +kernel)
theorem q772 : (Jvm.Cond.instanceMethod ({ cls := "GrownPost$Tokens", name := "pass", desc := "(I)Z" } : Jvm.MethodName)) ∈ zGW := zmem 772 (by decide +kernel) (by decide +kernel)
theorem q773 : (Jvm.Cond.selects "GrownPost$Tokens" ({ cls := "GrownPost$Tokens", name := "pass", desc := "(I)Z" } : Jvm.MethodName) ({ cls := "GrownPost$Tokens", name := "pass", desc := "(I)Z" } : Jvm.MethodName)) ∈ zGW := zmem 773 (by decide +kernel) (by decide +kernel)
theorem q775 : (Jvm.Cond.methodLink "GrownPost$LawReader" (32 : Nat) ({ cls := "GrownPost$Tokens", name := "code", desc := "()I" } : Jvm.MethodName)) ∈ zGW := zmem 775 (by decide +kernel) (by decide +kernel)
theorem q776 : (Jvm.Cond.methodLink "GrownPost$LawReader" (35 : Nat) ({ cls := "GrownPost$Tokens", name := "step", desc := "()V" } : Jvm.MethodName)) ∈ zGW := zmem 776 (by decide +kernel) (by decide +kernel)
theorem q777 : (Jvm.Cond.methodLink "GrownPost$LawReader" (38 : Nat) ({ cls := "GrownPost$LawReader", name := "readEither", desc := "(I)Z" } : Jvm.MethodName)) ∈ zGW := zmem 777 (by decide +kernel) (by decide +kernel)
theorem q779 : (Jvm.Cond.instanceMethod ({ cls := "GrownPost$LawReader", name := "readEither", desc := "(I)Z" } : Jvm.MethodName)) ∈ zGW := zmem 779 (by decide +kernel) (by decide +kernel)
theorem q781 : (Jvm.Cond.methodLink "GrownPost$LawReader" (45 : Nat) ({ cls := "GrownPost$LawReader", name := "readAll", desc := "(I)Z" } : Jvm.MethodName)) ∈ zGW := zmem 781 (by decide +kernel) (by decide +kernel)
theorem q783 : (Jvm.Cond.instanceMethod ({ cls := "GrownPost$LawReader", name := "readAll", desc := "(I)Z" } : Jvm.MethodName)) ∈ zGW := zmem 783 (by decide +kernel) (by decide +kernel)
theorem q785 : (Jvm.Cond.methodLink "GrownPost$LawReader" (56 : Nat) ({ cls := "GrownPost$LawReader", name := "readAtom", desc := "(I)Z" } : Jvm.MethodName)) ∈ zGW := zmem 785 (by decide +kernel) (by decide +kernel)
theorem q787 : (Jvm.Cond.instanceMethod ({ cls := "GrownPost$LawReader", name := "readAtom", desc := "(I)Z" } : Jvm.MethodName)) ∈ zGW := zmem 787 (by decide +kernel) (by decide +kernel)
theorem q789 : (Jvm.Cond.methodLink "GrownPost$LawReader" (59 : Nat) ({ cls := "GrownPost$LawReader", name := "readInner", desc := "(II)Z" } : Jvm.MethodName)) ∈ zGW := zmem 789 (by decide +kernel) (by decide +kernel)
theorem q791 : (Jvm.Cond.instanceMethod ({ cls := "GrownPost$LawReader", name := "readInner", desc := "(II)Z" } : Jvm.MethodName)) ∈ zGW := zmem 791 (by decide +kernel) (by decide +kernel)
theorem q793 : (Jvm.Cond.methodLink "GrownPost$LawReader" (48 : Nat) ({ cls := "GrownPost$Law", name := "addCode", desc := "(I)V" } : Jvm.MethodName)) ∈ zGW := zmem 793 (by decide +kernel) (by decide +kernel)
theorem q794 : (Jvm.Cond.instanceMethod ({ cls := "GrownPost$Law", name := "addCode", desc := "(I)V" } : Jvm.MethodName)) ∈ zGW := zmem 794 (by decide +kernel) (by decide +kernel)
theorem q795 : (Jvm.Cond.selects "GrownPost$Law" ({ cls := "GrownPost$Law", name := "addCode", desc := "(I)V" } : Jvm.MethodName) ({ cls := "GrownPost$Law", name := "addCode", desc := "(I)V" } : Jvm.MethodName)) ∈ zGW := zmem 795 (by decide +kernel) (by decide +kernel)
theorem q797 : (Jvm.Cond.methodLink "GrownPost$LawReader" (52 : Nat) ({ cls := "GrownPost$Tokens", name := "fail", desc := "()Z" } : Jvm.MethodName)) ∈ zGW := zmem 797 (by decide +kernel) (by decide +kernel)
theorem q798 : (Jvm.Cond.methodLink "GrownPost$LawReader" (63 : Nat) ({ cls := "GrownPost$LawReader", name := "readSum", desc := "()Z" } : Jvm.MethodName)) ∈ zGW := zmem 798 (by decide +kernel) (by decide +kernel)
theorem q800 : (Jvm.Cond.instanceMethod ({ cls := "GrownPost$LawReader", name := "readSum", desc := "()Z" } : Jvm.MethodName)) ∈ zGW := zmem 800 (by decide +kernel) (by decide +kernel)
theorem q802 : (Jvm.Cond.methodLink "GrownPost$LawReader" (41 : Nat) ({ cls := "GrownPost$Law", name := "addLine", desc := "(II)V" } : Jvm.MethodName)) ∈ zGW := zmem 802 (by decide +kernel) (by decide +kernel)
theorem q803 : (Jvm.Cond.instanceMethod ({ cls := "GrownPost$Law", name := "addLine", desc := "(II)V" } : Jvm.MethodName)) ∈ zGW := zmem 803 (by decide +kernel) (by decide +kernel)
theorem q804 : (Jvm.Cond.selects "GrownPost$Law" ({ cls := "GrownPost$Law", name := "addLine", desc := "(II)V" } : Jvm.MethodName) ({ cls := "GrownPost$Law", name := "addLine", desc := "(II)V" } : Jvm.MethodName)) ∈ zGW := zmem 804 (by decide +kernel) (by decide +kernel)
theorem q806 : (Jvm.Cond.selects "GrownPost$PostReader" ({ cls := "GrownPost$TextReader", name := "readLine", desc := "()Z" } : Jvm.MethodName) ({ cls := "GrownPost$PostReader", name := "readLine", desc := "()Z" } : Jvm.MethodName)) ∈ zGW := zmem 806 (by decide +kernel) (by decide +kernel)
theorem q807 : (Jvm.Cond.instanceMethod ({ cls := "GrownPost$PostReader", name := "readLine", desc := "()Z" } : Jvm.MethodName)) ∈ zGW := zmem 807 (by decide +kernel) (by decide +kernel)
theorem q809 : (Jvm.Cond.methodLink "GrownPost$PostReader" (22 : Nat) ({ cls := "GrownPost$Tokens", name := "code", desc := "()I" } : Jvm.MethodName)) ∈ zGW := zmem 809 (by decide +kernel) (by decide +kernel)
theorem q810 : (Jvm.Cond.methodLink "GrownPost$PostReader" (28 : Nat) ({ cls := "GrownPost$PostReader", name := "readLetter", desc := "()Z" } : Jvm.MethodName)) ∈ zGW := zmem 810 (by decide +kernel) (by decide +kernel)
theorem q812 : (Jvm.Cond.instanceMethod ({ cls := "GrownPost$PostReader", name := "readLetter", desc := "()Z" } : Jvm.MethodName)) ∈ zGW := zmem 812 (by decide +kernel) (by decide +kernel)
theorem q814 : (Jvm.Cond.methodLink "GrownPost$PostReader" (48 : Nat) ({ cls := "GrownPost$Tokens", name := "fail", desc := "()Z" } : Jvm.MethodName)) ∈ zGW := zmem 814 (by decide +kernel) (by decide +kernel)
theorem q815 : (Jvm.Cond.methodLink "GrownPost$PostReader" (61 : Nat) ({ cls := "GrownPost$Tokens", name := "step", desc := "()V" } : Jvm.MethodName)) ∈ zGW := zmem 815 (by decide +kernel) (by decide +kernel)
theorem q816 : (Jvm.Cond.methodLink "GrownPost$PostReader" (64 : Nat) ({ cls := "GrownPost$Tokens", name := "pass", desc := "(I)Z" } : Jvm.MethodName)) ∈ zGW := zmem 816 (by decide +kernel) (by decide +kernel)
theorem q817 : (Jvm.Cond.methodLink "GrownPost$PostReader" (68 : Nat) ({ cls := "GrownPost$Tokens", name := "takeNumber", desc := "(II)I" } : Jvm.MethodName)) ∈ zGW := zmem 817 (by decide +kernel) (by decide +kernel)
theorem q818 : (Jvm.Cond.instanceMethod ({ cls := "GrownPost$Tokens", name := "takeNumber", desc := "(II)I" } : Jvm.MethodName)) ∈ zGW := zmem 818 (by decide +kernel) (by decide +kernel)
theorem q819 : (Jvm.Cond.selects "GrownPost$Tokens" ({ cls := "GrownPost$Tokens", name := "takeNumber", desc := "(II)I" } : Jvm.MethodName) ({ cls := "GrownPost$Tokens", name := "takeNumber", desc := "(II)I" } : Jvm.MethodName)) ∈ zGW := zmem 819 (by decide +kernel) (by decide +kernel)
theorem q821 : (Jvm.Cond.methodLink "GrownPost$PostReader" (72 : Nat) ({ cls := "GrownPost$Tokens", name := "countKinds", desc := "()I" } : Jvm.MethodName)) ∈ zGW := zmem 821 (by decide +kernel) (by decide +kernel)
theorem q822 : (Jvm.Cond.methodLink "GrownPost$PostReader" (79 : Nat) ({ cls := "GrownPost$Mail", name := "begin", desc := "(II)V" } : Jvm.MethodName)) ∈ zGW := zmem 822 (by decide +kernel) (by decide +kernel)
theorem q823 : (Jvm.Cond.instanceMethod ({ cls := "GrownPost$Mail", name := "begin", desc := "(II)V" } : Jvm.MethodName)) ∈ zGW := zmem 823 (by decide +kernel) (by decide +kernel)
theorem q824 : (Jvm.Cond.selects "GrownPost$Mail" ({ cls := "GrownPost$Mail", name := "begin", desc := "(II)V" } : Jvm.MethodName) ({ cls := "GrownPost$Mail", name := "begin", desc := "(II)V" } : Jvm.MethodName)) ∈ zGW := zmem 824 (by decide +kernel) (by decide +kernel)
theorem q826 : (Jvm.Cond.methodLink "GrownPost$PostReader" (85 : Nat) ({ cls := "GrownPost$Tokens", name := "kindIn", desc := "(I)I" } : Jvm.MethodName)) ∈ zGW := zmem 826 (by decide +kernel) (by decide +kernel)
theorem q827 : (Jvm.Cond.methodLink "GrownPost$PostReader" (92 : Nat) ({ cls := "GrownPost$Mail", name := "add", desc := "(II)V" } : Jvm.MethodName)) ∈ zGW := zmem 827 (by decide +kernel) (by decide +kernel)
theorem q828 : (Jvm.Cond.methodLink "GrownPost$PostReader" (32 : Nat) ({ cls := "GrownPost$PostReader", name := "readWords", desc := "()Z" } : Jvm.MethodName)) ∈ zGW := zmem 828 (by decide +kernel) (by decide +kernel)
theorem q830 : (Jvm.Cond.instanceMethod ({ cls := "GrownPost$PostReader", name := "readWords", desc := "()Z" } : Jvm.MethodName)) ∈ zGW := zmem 830 (by decide +kernel) (by decide +kernel)
theorem q832 : (Jvm.Cond.methodLink "GrownPost$PostReader" (95 : Nat) ({ cls := "GrownPost$Tokens", name := "takeKind", desc := "()I" } : Jvm.MethodName)) ∈ zGW := zmem 832 (by decide +kernel) (by decide +kernel)
theorem q833 : (Jvm.Cond.methodLink "GrownPost$PostReader" (98 : Nat) ({ cls := "GrownPost$World", name := "setWords", desc := "(II)V" } : Jvm.MethodName)) ∈ zGW := zmem 833 (by decide +kernel) (by decide +kernel)
theorem q834 : (Jvm.Cond.instanceMethod ({ cls := "GrownPost$World", name := "setWords", desc := "(II)V" } : Jvm.MethodName)) ∈ zGW := zmem 834 (by decide +kernel) (by decide +kernel)
theorem q835 : (Jvm.Cond.selects "GrownPost$World" ({ cls := "GrownPost$World", name := "setWords", desc := "(II)V" } : Jvm.MethodName) ({ cls := "GrownPost$World", name := "setWords", desc := "(II)V" } : Jvm.MethodName)) ∈ zGW := zmem 835 (by decide +kernel) (by decide +kernel)
theorem q837 : (Jvm.Cond.methodLink "GrownPost$PostReader" (35 : Nat) ({ cls := "GrownPost$PostReader", name := "readPromise", desc := "()Z" } : Jvm.MethodName)) ∈ zGW := zmem 837 (by decide +kernel) (by decide +kernel)
theorem q839 : (Jvm.Cond.instanceMethod ({ cls := "GrownPost$PostReader", name := "readPromise", desc := "()Z" } : Jvm.MethodName)) ∈ zGW := zmem 839 (by decide +kernel) (by decide +kernel)
theorem q841 : (Jvm.Cond.methodLink "GrownPost$PostReader" (104 : Nat) ({ cls := "GrownPost$World", name := "addPromise", desc := "(II)V" } : Jvm.MethodName)) ∈ zGW := zmem 841 (by decide +kernel) (by decide +kernel)
theorem q842 : (Jvm.Cond.instanceMethod ({ cls := "GrownPost$World", name := "addPromise", desc := "(II)V" } : Jvm.MethodName)) ∈ zGW := zmem 842 (by decide +kernel) (by decide +kernel)
theorem q843 : (Jvm.Cond.selects "GrownPost$World" ({ cls := "GrownPost$World", name := "addPromise", desc := "(II)V" } : Jvm.MethodName) ({ cls := "GrownPost$World", name := "addPromise", desc := "(II)V" } : Jvm.MethodName)) ∈ zGW := zmem 843 (by decide +kernel) (by decide +kernel)
theorem q845 : (Jvm.Cond.methodLink "GrownPost$PostReader" (38 : Nat) ({ cls := "GrownPost$PostReader", name := "readSlip", desc := "()Z" } : Jvm.MethodName)) ∈ zGW := zmem 845 (by decide +kernel) (by decide +kernel)
theorem q847 : (Jvm.Cond.instanceMethod ({ cls := "GrownPost$PostReader", name := "readSlip", desc := "()Z" } : Jvm.MethodName)) ∈ zGW := zmem 847 (by decide +kernel) (by decide +kernel)
theorem q849 : (Jvm.Cond.methodLink "GrownPost$PostReader" (41 : Nat) ({ cls := "GrownPost$PostReader", name := "readState", desc := "(Z)Z" } : Jvm.MethodName)) ∈ zGW := zmem 849 (by decide +kernel) (by decide +kernel)
theorem q851 : (Jvm.Cond.instanceMethod ({ cls := "GrownPost$PostReader", name := "readState", desc := "(Z)Z" } : Jvm.MethodName)) ∈ zGW := zmem 851 (by decide +kernel) (by decide +kernel)
theorem q853 : (Jvm.Cond.methodLink "GrownPost$PostReader" (45 : Nat) ({ cls := "GrownPost$PostReader", name := "readWeek", desc := "()Z" } : Jvm.MethodName)) ∈ zGW := zmem 853 (by decide +kernel) (by decide +kernel)
theorem q855 : (Jvm.Cond.instanceMethod ({ cls := "GrownPost$PostReader", name := "readWeek", desc := "()Z" } : Jvm.MethodName)) ∈ zGW := zmem 855 (by decide +kernel) (by decide +kernel)
theorem q857 : (Jvm.Cond.methodLink "GrownPost$TextReader" (30 : Nat) ({ cls := "GrownPost$Tokens", name := "pass", desc := "(I)Z" } : Jvm.MethodName)) ∈ zGW := zmem 857 (by decide +kernel) (by decide +kernel)
theorem q858 : (Jvm.Cond.methodLink "GrownPost$TextReader" (34 : Nat) ({ cls := "GrownPost$Tokens", name := "fail", desc := "()Z" } : Jvm.MethodName)) ∈ zGW := zmem 858 (by decide +kernel) (by decide +kernel)
theorem q859 : (Jvm.Cond.methodLink "GrownPost" (107 : Nat) ({ cls := "GrownPost", name := "endReading", desc := "(I)V" } : Jvm.MethodName)) ∈ zGW := zmem 859 (by decide +kernel) (by decide +kernel)
theorem q861 : (Jvm.Cond.instanceMethod ({ cls := "GrownPost", name := "endReading", desc := "(I)V" } : Jvm.MethodName)) ∈ zGW := zmem 861 (by decide +kernel) (by decide +kernel)
theorem q863 : (Jvm.Cond.classLink "GrownPost" (110 : Nat) "java/lang/IllegalArgumentException") ∈ zGW := zmem 863 (by decide +kernel) (by decide +kernel)
theorem q933 : (Jvm.Cond.classLink "GrownPost" (120 : Nat) "java/lang/UnsupportedOperationException") ∈ zGW := zmem 933 (by decide +kernel) (by decide +kernel)
theorem q956 : (Jvm.Cond.methodLink "GrownPost" (131 : Nat) ({ cls := "GrownPost$Law", name := "clear", desc := "()V" } : Jvm.MethodName)) ∈ zGW := zmem 956 (by decide +kernel) (by decide +kernel)
theorem q957 : (Jvm.Cond.instanceMethod ({ cls := "GrownPost$Law", name := "clear", desc := "()V" } : Jvm.MethodName)) ∈ zGW := zmem 957 (by decide +kernel) (by decide +kernel)
theorem q958 : (Jvm.Cond.selects "GrownPost$Law" ({ cls := "GrownPost$Law", name := "clear", desc := "()V" } : Jvm.MethodName) ({ cls := "GrownPost$Law", name := "clear", desc := "()V" } : Jvm.MethodName)) ∈ zGW := zmem 958 (by decide +kernel) (by decide +kernel)
theorem q960 : (Jvm.Cond.methodLink "GrownPost" (136 : Nat) ({ cls := "GrownPost$LawReader", name := "readText", desc := "([III)Z" } : Jvm.MethodName)) ∈ zGW := zmem 960 (by decide +kernel) (by decide +kernel)
theorem q961 : (Jvm.Cond.sameMethod "GrownPost$LawReader" "GrownPost$TextReader" "readText" "([III)Z") ∈ zGW := zmem 961 (by decide +kernel) (by decide +kernel)
theorem q962 : (Jvm.Cond.selects "GrownPost$LawReader" ({ cls := "GrownPost$LawReader", name := "readText", desc := "([III)Z" } : Jvm.MethodName) ({ cls := "GrownPost$TextReader", name := "readText", desc := "([III)Z" } : Jvm.MethodName)) ∈ zGW := zmem 962 (by decide +kernel) (by decide +kernel)
theorem q964 : (Jvm.Cond.methodLink "GrownPost" (147 : Nat) ({ cls := "GrownPost$Law", name := "become", desc := "(LGrownPost$Law;)V" } : Jvm.MethodName)) ∈ zGW := zmem 964 (by decide +kernel) (by decide +kernel)
theorem q974 : (Jvm.Cond.methodLink "GrownPost" (153 : Nat) ({ cls := "GrownPost", name := "mailOf", desc := "(I)LGrownPost$Mail;" } : Jvm.MethodName)) ∈ zGW := zmem 974 (by decide +kernel) (by decide +kernel)
theorem q976 : (Jvm.Cond.instanceMethod ({ cls := "GrownPost", name := "mailOf", desc := "(I)LGrownPost$Mail;" } : Jvm.MethodName)) ∈ zGW := zmem 976 (by decide +kernel) (by decide +kernel)
theorem q978 : (Jvm.Cond.methodLink "GrownPost" (269 : Nat) ({ cls := "GrownPost", name := "needLetter", desc := "(I)V" } : Jvm.MethodName)) ∈ zGW := zmem 978 (by decide +kernel) (by decide +kernel)
theorem q980 : (Jvm.Cond.instanceMethod ({ cls := "GrownPost", name := "needLetter", desc := "(I)V" } : Jvm.MethodName)) ∈ zGW := zmem 980 (by decide +kernel) (by decide +kernel)
theorem q982 : (Jvm.Cond.classLink "GrownPost" (413 : Nat) "java/lang/IndexOutOfBoundsException") ∈ zGW := zmem 982 (by decide +kernel) (by decide +kernel)
theorem q998 : (Jvm.Cond.methodLink "GrownPost" (188 : Nat) ({ cls := "GrownPost$Law", name := "growth", desc := "(LGrownPost$Mail;I)I" } : Jvm.MethodName)) ∈ zGW := zmem 998 (by decide +kernel) (by decide +kernel)
theorem q999 : (Jvm.Cond.classLink "GrownPost" (192 : Nat) "java/util/NoSuchElementException") ∈ zGW := zmem 999 (by decide +kernel) (by decide +kernel)
theorem q1022 : (Jvm.Cond.methodLink "GrownPost" (197 : Nat) ({ cls := "GrownPost", name := "needLine", desc := "(LGrownPost$Mail;I)V" } : Jvm.MethodName)) ∈ zGW := zmem 1022 (by decide +kernel) (by decide +kernel)
theorem q1023 : (Jvm.Cond.static ({ cls := "GrownPost", name := "needLine", desc := "(LGrownPost$Mail;I)V" } : Jvm.MethodName)) ∈ zGW := zmem 1023 (by decide +kernel) (by decide +kernel)
theorem q1026 : (Jvm.Cond.methodLink "GrownPost" (201 : Nat) ({ cls := "GrownPost$Mail", name := "weekAt", desc := "(I)I" } : Jvm.MethodName)) ∈ zGW := zmem 1026 (by decide +kernel) (by decide +kernel)
theorem q1027 : (Jvm.Cond.instanceMethod ({ cls := "GrownPost$Mail", name := "weekAt", desc := "(I)I" } : Jvm.MethodName)) ∈ zGW := zmem 1027 (by decide +kernel) (by decide +kernel)
theorem q1028 : (Jvm.Cond.selects "GrownPost$Mail" ({ cls := "GrownPost$Mail", name := "weekAt", desc := "(I)I" } : Jvm.MethodName) ({ cls := "GrownPost$Mail", name := "weekAt", desc := "(I)I" } : Jvm.MethodName)) ∈ zGW := zmem 1028 (by decide +kernel) (by decide +kernel)
theorem q1030 : (Jvm.Cond.methodLink "GrownPost" (205 : Nat) ({ cls := "GrownPost$Mail", name := "kindAt", desc := "(I)I" } : Jvm.MethodName)) ∈ zGW := zmem 1030 (by decide +kernel) (by decide +kernel)
theorem q1038 : (Jvm.Cond.methodLink "GrownPost" (208 : Nat) ({ cls := "GrownPost", name := "needKind", desc := "(I)V" } : Jvm.MethodName)) ∈ zGW := zmem 1038 (by decide +kernel) (by decide +kernel)
theorem q1039 : (Jvm.Cond.static ({ cls := "GrownPost", name := "needKind", desc := "(I)V" } : Jvm.MethodName)) ∈ zGW := zmem 1039 (by decide +kernel) (by decide +kernel)
theorem q1042 : (Jvm.Cond.methodLink "GrownPost" (211 : Nat) ({ cls := "GrownPost$World", name := "wordsFor", desc := "(I)I" } : Jvm.MethodName)) ∈ zGW := zmem 1042 (by decide +kernel) (by decide +kernel)
theorem q1050 : (Jvm.Cond.methodLink "GrownPost" (214 : Nat) ({ cls := "GrownPost", name := "needPromise", desc := "(I)V" } : Jvm.MethodName)) ∈ zGW := zmem 1050 (by decide +kernel) (by decide +kernel)
theorem q1052 : (Jvm.Cond.instanceMethod ({ cls := "GrownPost", name := "needPromise", desc := "(I)V" } : Jvm.MethodName)) ∈ zGW := zmem 1052 (by decide +kernel) (by decide +kernel)
theorem q1055 : (Jvm.Cond.methodLink "GrownPost" (217 : Nat) ({ cls := "GrownPost$World", name := "promised", desc := "(IZ)I" } : Jvm.MethodName)) ∈ zGW := zmem 1055 (by decide +kernel) (by decide +kernel)
theorem q1056 : (Jvm.Cond.instanceMethod ({ cls := "GrownPost$World", name := "promised", desc := "(IZ)I" } : Jvm.MethodName)) ∈ zGW := zmem 1056 (by decide +kernel) (by decide +kernel)
theorem q1057 : (Jvm.Cond.selects "GrownPost$World" ({ cls := "GrownPost$World", name := "promised", desc := "(IZ)I" } : Jvm.MethodName) ({ cls := "GrownPost$World", name := "promised", desc := "(IZ)I" } : Jvm.MethodName)) ∈ zGW := zmem 1057 (by decide +kernel) (by decide +kernel)
theorem q1067 : (Jvm.Cond.methodLink "GrownPost" (223 : Nat) ({ cls := "GrownPost", name := "seasonOf", desc := "(I)I" } : Jvm.MethodName)) ∈ zGW := zmem 1067 (by decide +kernel) (by decide +kernel)
theorem q1075 : (Jvm.Cond.methodLink "GrownPost" (226 : Nat) ({ cls := "GrownPost", name := "areKinds", desc := "(I)Z" } : Jvm.MethodName)) ∈ zGW := zmem 1075 (by decide +kernel) (by decide +kernel)
theorem q1077 : (Jvm.Cond.instanceMethod ({ cls := "GrownPost", name := "areKinds", desc := "(I)Z" } : Jvm.MethodName)) ∈ zGW := zmem 1077 (by decide +kernel) (by decide +kernel)
theorem q1079 : (Jvm.Cond.methodLink "GrownPost" (230 : Nat) ({ cls := "GrownPost", name := "isNoDigit", desc := "(I)Z" } : Jvm.MethodName)) ∈ zGW := zmem 1079 (by decide +kernel) (by decide +kernel)
theorem q1080 : (Jvm.Cond.static ({ cls := "GrownPost", name := "isNoDigit", desc := "(I)Z" } : Jvm.MethodName)) ∈ zGW := zmem 1080 (by decide +kernel) (by decide +kernel)
theorem q1084 : (Jvm.Cond.methodLink "GrownPost" (238 : Nat) ({ cls := "GrownPost$Memory", name := "remember", desc := "(LGrownPost$Bag;)V" } : Jvm.MethodName)) ∈ zGW := zmem 1084 (by decide +kernel) (by decide +kernel)
theorem q1085 : (Jvm.Cond.instanceMethod ({ cls := "GrownPost$Memory", name := "remember", desc := "(LGrownPost$Bag;)V" } : Jvm.MethodName)) ∈ zGW := zmem 1085 (by decide +kernel) (by decide +kernel)
theorem q1086 : (Jvm.Cond.selects "GrownPost$Memory" ({ cls := "GrownPost$Memory", name := "remember", desc := "(LGrownPost$Bag;)V" } : Jvm.MethodName) ({ cls := "GrownPost$Memory", name := "remember", desc := "(LGrownPost$Bag;)V" } : Jvm.MethodName)) ∈ zGW := zmem 1086 (by decide +kernel) (by decide +kernel)
theorem q1088 : (Jvm.Cond.methodLink "GrownPost$Memory" (29 : Nat) ({ cls := "java/lang/Math", name := "min", desc := "(II)I" } : Jvm.MethodName)) ∈ zGW := zmem 1088 (by decide +kernel) (by decide +kernel)
theorem q1089 : (Jvm.Cond.methodLink "GrownPost" (246 : Nat) ({ cls := "GrownPost$Mail", name := "begin", desc := "(II)V" } : Jvm.MethodName)) ∈ zGW := zmem 1089 (by decide +kernel) (by decide +kernel)
theorem q1090 : (Jvm.Cond.methodLink "GrownPost" (250 : Nat) ({ cls := "GrownPost$Mail", name := "add", desc := "(II)V" } : Jvm.MethodName)) ∈ zGW := zmem 1090 (by decide +kernel) (by decide +kernel)
theorem q1105 : (Jvm.Cond.methodLink "GrownPost" (253 : Nat) ({ cls := "GrownPost$Mail", name := "become", desc := "(LGrownPost$Mail;)V" } : Jvm.MethodName)) ∈ zGW := zmem 1105 (by decide +kernel) (by decide +kernel)
theorem q1114 : (Jvm.Cond.methodLink "GrownPost" (258 : Nat) ({ cls := "GrownPost$Mail", name := "shorten", desc := "(I)V" } : Jvm.MethodName)) ∈ zGW := zmem 1114 (by decide +kernel) (by decide +kernel)
theorem q1115 : (Jvm.Cond.instanceMethod ({ cls := "GrownPost$Mail", name := "shorten", desc := "(I)V" } : Jvm.MethodName)) ∈ zGW := zmem 1115 (by decide +kernel) (by decide +kernel)
theorem q1116 : (Jvm.Cond.selects "GrownPost$Mail" ({ cls := "GrownPost$Mail", name := "shorten", desc := "(I)V" } : Jvm.MethodName) ({ cls := "GrownPost$Mail", name := "shorten", desc := "(I)V" } : Jvm.MethodName)) ∈ zGW := zmem 1116 (by decide +kernel) (by decide +kernel)
theorem q1126 : (Jvm.Cond.classLink "GrownPost" (261 : Nat) "java/lang/IllegalStateException") ∈ zGW := zmem 1126 (by decide +kernel) (by decide +kernel)
theorem q1142 : (Jvm.Cond.methodLink "GrownPost" (266 : Nat) ({ cls := "GrownPost$Mail", name := "drop", desc := "(I)V" } : Jvm.MethodName)) ∈ zGW := zmem 1142 (by decide +kernel) (by decide +kernel)
theorem q1143 : (Jvm.Cond.instanceMethod ({ cls := "GrownPost$Mail", name := "drop", desc := "(I)V" } : Jvm.MethodName)) ∈ zGW := zmem 1143 (by decide +kernel) (by decide +kernel)
theorem q1144 : (Jvm.Cond.selects "GrownPost$Mail" ({ cls := "GrownPost$Mail", name := "drop", desc := "(I)V" } : Jvm.MethodName) ({ cls := "GrownPost$Mail", name := "drop", desc := "(I)V" } : Jvm.MethodName)) ∈ zGW := zmem 1144 (by decide +kernel) (by decide +kernel)
theorem q1160 : (Jvm.Cond.methodLink "GrownPost" (272 : Nat) ({ cls := "GrownPost$Bag", name := "drop", desc := "(I)V" } : Jvm.MethodName)) ∈ zGW := zmem 1160 (by decide +kernel) (by decide +kernel)
theorem q1161 : (Jvm.Cond.instanceMethod ({ cls := "GrownPost$Bag", name := "drop", desc := "(I)V" } : Jvm.MethodName)) ∈ zGW := zmem 1161 (by decide +kernel) (by decide +kernel)
theorem q1162 : (Jvm.Cond.selects "GrownPost$Bag" ({ cls := "GrownPost$Bag", name := "drop", desc := "(I)V" } : Jvm.MethodName) ({ cls := "GrownPost$Bag", name := "drop", desc := "(I)V" } : Jvm.MethodName)) ∈ zGW := zmem 1162 (by decide +kernel) (by decide +kernel)
theorem q1172 : (Jvm.Cond.methodLink "GrownPost" (278 : Nat) ({ cls := "GrownPost$Bag", name := "passWeek", desc := "(LGrownPost$Law;I)I" } : Jvm.MethodName)) ∈ zGW := zmem 1172 (by decide +kernel) (by decide +kernel)
theorem q1173 : (Jvm.Cond.instanceMethod ({ cls := "GrownPost$Bag", name := "passWeek", desc := "(LGrownPost$Law;I)I" } : Jvm.MethodName)) ∈ zGW := zmem 1173 (by decide +kernel) (by decide +kernel)
theorem q1174 : (Jvm.Cond.selects "GrownPost$Bag" ({ cls := "GrownPost$Bag", name := "passWeek", desc := "(LGrownPost$Law;I)I" } : Jvm.MethodName) ({ cls := "GrownPost$Bag", name := "passWeek", desc := "(LGrownPost$Law;I)I" } : Jvm.MethodName)) ∈ zGW := zmem 1174 (by decide +kernel) (by decide +kernel)
theorem q1176 : (Jvm.Cond.methodLink "GrownPost$Bag" (35 : Nat) ({ cls := "GrownPost$Bag", name := "growOne", desc := "(LGrownPost$Mail;LGrownPost$Law;I)I" } : Jvm.MethodName)) ∈ zGW := zmem 1176 (by decide +kernel) (by decide +kernel)
theorem q1178 : (Jvm.Cond.instanceMethod ({ cls := "GrownPost$Bag", name := "growOne", desc := "(LGrownPost$Mail;LGrownPost$Law;I)I" } : Jvm.MethodName)) ∈ zGW := zmem 1178 (by decide +kernel) (by decide +kernel)
theorem q1180 : (Jvm.Cond.methodLink "GrownPost$Bag" (49 : Nat) ({ cls := "GrownPost$Law", name := "growth", desc := "(LGrownPost$Mail;I)I" } : Jvm.MethodName)) ∈ zGW := zmem 1180 (by decide +kernel) (by decide +kernel)
theorem q1181 : (Jvm.Cond.methodLink "GrownPost$Bag" (55 : Nat) ({ cls := "GrownPost$Bag", name := "draw", desc := "()I" } : Jvm.MethodName)) ∈ zGW := zmem 1181 (by decide +kernel) (by decide +kernel)
theorem q1183 : (Jvm.Cond.instanceMethod ({ cls := "GrownPost$Bag", name := "draw", desc := "()I" } : Jvm.MethodName)) ∈ zGW := zmem 1183 (by decide +kernel) (by decide +kernel)
theorem q1185 : (Jvm.Cond.constant "GrownPost$Bag" (63 : Nat) (1103515245 : Int32)) ∈ zGW := zmem 1185 (by decide +kernel) (by decide +kernel)
theorem q1186 : (Jvm.Cond.methodLink "GrownPost$Bag" (59 : Nat) ({ cls := "GrownPost$Mail", name := "add", desc := "(II)V" } : Jvm.MethodName)) ∈ zGW := zmem 1186 (by decide +kernel) (by decide +kernel)
theorem q1187 : (Jvm.Cond.methodLink "GrownPost$Bag" (43 : Nat) ({ cls := "java/lang/Math", name := "min", desc := "(II)I" } : Jvm.MethodName)) ∈ zGW := zmem 1187 (by decide +kernel) (by decide +kernel)
theorem q1195 : (Jvm.Cond.methodLink "GrownPost" (285 : Nat) ({ cls := "GrownPost", name := "needAhead", desc := "(II)V" } : Jvm.MethodName)) ∈ zGW := zmem 1195 (by decide +kernel) (by decide +kernel)
theorem q1196 : (Jvm.Cond.static ({ cls := "GrownPost", name := "needAhead", desc := "(II)V" } : Jvm.MethodName)) ∈ zGW := zmem 1196 (by decide +kernel) (by decide +kernel)
theorem q1200 : (Jvm.Cond.methodLink "GrownPost" (293 : Nat) ({ cls := "GrownPost$Sight", name := "go", desc := "(LGrownPost$Law;I)V" } : Jvm.MethodName)) ∈ zGW := zmem 1200 (by decide +kernel) (by decide +kernel)
theorem q1201 : (Jvm.Cond.instanceMethod ({ cls := "GrownPost$Sight", name := "go", desc := "(LGrownPost$Law;I)V" } : Jvm.MethodName)) ∈ zGW := zmem 1201 (by decide +kernel) (by decide +kernel)
theorem q1202 : (Jvm.Cond.selects "GrownPost$Sight" ({ cls := "GrownPost$Sight", name := "go", desc := "(LGrownPost$Law;I)V" } : Jvm.MethodName) ({ cls := "GrownPost$Sight", name := "go", desc := "(LGrownPost$Law;I)V" } : Jvm.MethodName)) ∈ zGW := zmem 1202 (by decide +kernel) (by decide +kernel)
theorem q1204 : (Jvm.Cond.methodLink "GrownPost$Sight" (36 : Nat) ({ cls := "GrownPost$Sight", name := "goWeek", desc := "(LGrownPost$Law;)V" } : Jvm.MethodName)) ∈ zGW := zmem 1204 (by decide +kernel) (by decide +kernel)
theorem q1212 : (Jvm.Cond.methodLink "GrownPost" (301 : Nat) ({ cls := "GrownPost$Mail", name := "holds", desc := "(I)Z" } : Jvm.MethodName)) ∈ zGW := zmem 1212 (by decide +kernel) (by decide +kernel)
theorem q1213 : (Jvm.Cond.instanceMethod ({ cls := "GrownPost$Mail", name := "holds", desc := "(I)Z" } : Jvm.MethodName)) ∈ zGW := zmem 1213 (by decide +kernel) (by decide +kernel)
theorem q1214 : (Jvm.Cond.selects "GrownPost$Mail" ({ cls := "GrownPost$Mail", name := "holds", desc := "(I)Z" } : Jvm.MethodName) ({ cls := "GrownPost$Mail", name := "holds", desc := "(I)Z" } : Jvm.MethodName)) ∈ zGW := zmem 1214 (by decide +kernel) (by decide +kernel)
theorem q1216 : (Jvm.Cond.methodLink "GrownPost$Mail" (45 : Nat) ({ cls := "GrownPost$Mail", name := "kindSet", desc := "()I" } : Jvm.MethodName)) ∈ zGW := zmem 1216 (by decide +kernel) (by decide +kernel)
theorem q1217 : (Jvm.Cond.instanceMethod ({ cls := "GrownPost$Mail", name := "kindSet", desc := "()I" } : Jvm.MethodName)) ∈ zGW := zmem 1217 (by decide +kernel) (by decide +kernel)
theorem q1218 : (Jvm.Cond.selects "GrownPost$Mail" ({ cls := "GrownPost$Mail", name := "kindSet", desc := "()I" } : Jvm.MethodName) ({ cls := "GrownPost$Mail", name := "kindSet", desc := "()I" } : Jvm.MethodName)) ∈ zGW := zmem 1218 (by decide +kernel) (by decide +kernel)
theorem q1241 : (Jvm.Cond.methodLink "GrownPost" (308 : Nat) ({ cls := "GrownPost", name := "needDigit", desc := "(I)V" } : Jvm.MethodName)) ∈ zGW := zmem 1241 (by decide +kernel) (by decide +kernel)
theorem q1242 : (Jvm.Cond.static ({ cls := "GrownPost", name := "needDigit", desc := "(I)V" } : Jvm.MethodName)) ∈ zGW := zmem 1242 (by decide +kernel) (by decide +kernel)
theorem q1245 : (Jvm.Cond.methodLink "GrownPost" (311 : Nat) ({ cls := "GrownPost$Sight", name := "lookAtRow", desc := "(IIII)V" } : Jvm.MethodName)) ∈ zGW := zmem 1245 (by decide +kernel) (by decide +kernel)
theorem q1246 : (Jvm.Cond.instanceMethod ({ cls := "GrownPost$Sight", name := "lookAtRow", desc := "(IIII)V" } : Jvm.MethodName)) ∈ zGW := zmem 1246 (by decide +kernel) (by decide +kernel)
theorem q1247 : (Jvm.Cond.selects "GrownPost$Sight" ({ cls := "GrownPost$Sight", name := "lookAtRow", desc := "(IIII)V" } : Jvm.MethodName) ({ cls := "GrownPost$Sight", name := "lookAtRow", desc := "(IIII)V" } : Jvm.MethodName)) ∈ zGW := zmem 1247 (by decide +kernel) (by decide +kernel)
theorem q1249 : (Jvm.Cond.methodLink "GrownPost$Sight" (29 : Nat) ({ cls := "GrownPost$Mail", name := "begin", desc := "(II)V" } : Jvm.MethodName)) ∈ zGW := zmem 1249 (by decide +kernel) (by decide +kernel)
theorem q1271 : (Jvm.Cond.methodLink "GrownPost" (315 : Nat) ({ cls := "GrownPost$Law", name := "astrayIn", desc := "(LGrownPost$Mail;)I" } : Jvm.MethodName)) ∈ zGW := zmem 1271 (by decide +kernel) (by decide +kernel)
theorem q1272 : (Jvm.Cond.instanceMethod ({ cls := "GrownPost$Law", name := "astrayIn", desc := "(LGrownPost$Mail;)I" } : Jvm.MethodName)) ∈ zGW := zmem 1272 (by decide +kernel) (by decide +kernel)
theorem q1273 : (Jvm.Cond.selects "GrownPost$Law" ({ cls := "GrownPost$Law", name := "astrayIn", desc := "(LGrownPost$Mail;)I" } : Jvm.MethodName) ({ cls := "GrownPost$Law", name := "astrayIn", desc := "(LGrownPost$Mail;)I" } : Jvm.MethodName)) ∈ zGW := zmem 1273 (by decide +kernel) (by decide +kernel)
theorem q1275 : (Jvm.Cond.methodLink "GrownPost$Law" (59 : Nat) ({ cls := "GrownPost$Mail", name := "weekAt", desc := "(I)I" } : Jvm.MethodName)) ∈ zGW := zmem 1275 (by decide +kernel) (by decide +kernel)
theorem q1290 : (Jvm.Cond.methodLink "GrownPost" (318 : Nat) ({ cls := "GrownPost$Law", name := "leads", desc := "(II)Z" } : Jvm.MethodName)) ∈ zGW := zmem 1290 (by decide +kernel) (by decide +kernel)
theorem q1291 : (Jvm.Cond.instanceMethod ({ cls := "GrownPost$Law", name := "leads", desc := "(II)Z" } : Jvm.MethodName)) ∈ zGW := zmem 1291 (by decide +kernel) (by decide +kernel)
theorem q1292 : (Jvm.Cond.selects "GrownPost$Law" ({ cls := "GrownPost$Law", name := "leads", desc := "(II)Z" } : Jvm.MethodName) ({ cls := "GrownPost$Law", name := "leads", desc := "(II)Z" } : Jvm.MethodName)) ∈ zGW := zmem 1292 (by decide +kernel) (by decide +kernel)
theorem q1301 : (Jvm.Cond.methodLink "GrownPost" (322 : Nat) ({ cls := "GrownPost", name := "needTwo", desc := "(II)V" } : Jvm.MethodName)) ∈ zGW := zmem 1301 (by decide +kernel) (by decide +kernel)
theorem q1302 : (Jvm.Cond.static ({ cls := "GrownPost", name := "needTwo", desc := "(II)V" } : Jvm.MethodName)) ∈ zGW := zmem 1302 (by decide +kernel) (by decide +kernel)
theorem q1305 : (Jvm.Cond.methodLink "GrownPost" (325 : Nat) ({ cls := "GrownPost$Mail", name := "firstUnlike", desc := "(LGrownPost$Mail;)I" } : Jvm.MethodName)) ∈ zGW := zmem 1305 (by decide +kernel) (by decide +kernel)
theorem q1306 : (Jvm.Cond.instanceMethod ({ cls := "GrownPost$Mail", name := "firstUnlike", desc := "(LGrownPost$Mail;)I" } : Jvm.MethodName)) ∈ zGW := zmem 1306 (by decide +kernel) (by decide +kernel)
theorem q1307 : (Jvm.Cond.selects "GrownPost$Mail" ({ cls := "GrownPost$Mail", name := "firstUnlike", desc := "(LGrownPost$Mail;)I" } : Jvm.MethodName) ({ cls := "GrownPost$Mail", name := "firstUnlike", desc := "(LGrownPost$Mail;)I" } : Jvm.MethodName)) ∈ zGW := zmem 1307 (by decide +kernel) (by decide +kernel)
theorem q1309 : (Jvm.Cond.methodLink "GrownPost$Mail" (49 : Nat) ({ cls := "java/lang/Math", name := "max", desc := "(II)I" } : Jvm.MethodName)) ∈ zGW := zmem 1309 (by decide +kernel) (by decide +kernel)
theorem q1326 : (Jvm.Cond.methodLink "GrownPost" (338 : Nat) ({ cls := "GrownPost$World", name := "binding", desc := "(LGrownPost$Mail;)I" } : Jvm.MethodName)) ∈ zGW := zmem 1326 (by decide +kernel) (by decide +kernel)
theorem q1327 : (Jvm.Cond.instanceMethod ({ cls := "GrownPost$World", name := "binding", desc := "(LGrownPost$Mail;)I" } : Jvm.MethodName)) ∈ zGW := zmem 1327 (by decide +kernel) (by decide +kernel)
theorem q1328 : (Jvm.Cond.selects "GrownPost$World" ({ cls := "GrownPost$World", name := "binding", desc := "(LGrownPost$Mail;)I" } : Jvm.MethodName) ({ cls := "GrownPost$World", name := "binding", desc := "(LGrownPost$Mail;)I" } : Jvm.MethodName)) ∈ zGW := zmem 1328 (by decide +kernel) (by decide +kernel)
theorem q1330 : (Jvm.Cond.methodLink "GrownPost$World" (70 : Nat) ({ cls := "GrownPost$Mail", name := "binds", desc := "(II)Z" } : Jvm.MethodName)) ∈ zGW := zmem 1330 (by decide +kernel) (by decide +kernel)
theorem q1331 : (Jvm.Cond.instanceMethod ({ cls := "GrownPost$Mail", name := "binds", desc := "(II)Z" } : Jvm.MethodName)) ∈ zGW := zmem 1331 (by decide +kernel) (by decide +kernel)
theorem q1332 : (Jvm.Cond.selects "GrownPost$Mail" ({ cls := "GrownPost$Mail", name := "binds", desc := "(II)Z" } : Jvm.MethodName) ({ cls := "GrownPost$Mail", name := "binds", desc := "(II)Z" } : Jvm.MethodName)) ∈ zGW := zmem 1332 (by decide +kernel) (by decide +kernel)
theorem q1341 : (Jvm.Cond.methodLink "GrownPost" (341 : Nat) ({ cls := "GrownPost", name := "firstBinding", desc := "(LGrownPost$Mail;I)I" } : Jvm.MethodName)) ∈ zGW := zmem 1341 (by decide +kernel) (by decide +kernel)
theorem q1343 : (Jvm.Cond.instanceMethod ({ cls := "GrownPost", name := "firstBinding", desc := "(LGrownPost$Mail;I)I" } : Jvm.MethodName)) ∈ zGW := zmem 1343 (by decide +kernel) (by decide +kernel)
theorem q1366 : (Jvm.Cond.methodLink "GrownPost" (344 : Nat) ({ cls := "GrownPost$World", name := "postageFor", desc := "(LGrownPost$Mail;)I" } : Jvm.MethodName)) ∈ zGW := zmem 1366 (by decide +kernel) (by decide +kernel)
theorem q1367 : (Jvm.Cond.instanceMethod ({ cls := "GrownPost$World", name := "postageFor", desc := "(LGrownPost$Mail;)I" } : Jvm.MethodName)) ∈ zGW := zmem 1367 (by decide +kernel) (by decide +kernel)
theorem q1368 : (Jvm.Cond.selects "GrownPost$World" ({ cls := "GrownPost$World", name := "postageFor", desc := "(LGrownPost$Mail;)I" } : Jvm.MethodName) ({ cls := "GrownPost$World", name := "postageFor", desc := "(LGrownPost$Mail;)I" } : Jvm.MethodName)) ∈ zGW := zmem 1368 (by decide +kernel) (by decide +kernel)
theorem q1370 : (Jvm.Cond.methodLink "GrownPost$World" (74 : Nat) ({ cls := "GrownPost$World", name := "wordsIn", desc := "(LGrownPost$Mail;)I" } : Jvm.MethodName)) ∈ zGW := zmem 1370 (by decide +kernel) (by decide +kernel)
theorem q1371 : (Jvm.Cond.methodLink "GrownPost$World" (78 : Nat) ({ cls := "GrownPost$World", name := "binding", desc := "(LGrownPost$Mail;)I" } : Jvm.MethodName)) ∈ zGW := zmem 1371 (by decide +kernel) (by decide +kernel)
theorem q1372 : (Jvm.Cond.methodLink "GrownPost$World" (81 : Nat) ({ cls := "java/lang/Integer", name := "bitCount", desc := "(I)I" } : Jvm.MethodName)) ∈ zGW := zmem 1372 (by decide +kernel) (by decide +kernel)
theorem q1373 : (Jvm.Cond.static ({ cls := "java/lang/Integer", name := "bitCount", desc := "(I)I" } : Jvm.MethodName)) ∈ zGW := zmem 1373 (by decide +kernel) (by decide +kernel)
theorem q1375 : (Jvm.Cond.constant "java/lang/Integer" (265 : Nat) (1431655765 : Int32)) ∈ zGW := zmem 1375 (by decide +kernel) (by decide +kernel)
theorem q1376 : (Jvm.Cond.constant "java/lang/Integer" (266 : Nat) (858993459 : Int32)) ∈ zGW := zmem 1376 (by decide +kernel) (by decide +kernel)
theorem q1377 : (Jvm.Cond.constant "java/lang/Integer" (267 : Nat) (252645135 : Int32)) ∈ zGW := zmem 1377 (by decide +kernel) (by decide +kernel)
theorem q1392 : (Jvm.Cond.methodLink "GrownPost" (350 : Nat) ({ cls := "java/lang/Integer", name := "bitCount", desc := "(I)I" } : Jvm.MethodName)) ∈ zGW := zmem 1392 (by decide +kernel) (by decide +kernel)
theorem q1400 : (Jvm.Cond.methodLink "GrownPost" (355 : Nat) ({ cls := "GrownPost$Mail", name := "kindSet", desc := "()I" } : Jvm.MethodName)) ∈ zGW := zmem 1400 (by decide +kernel) (by decide +kernel)
theorem q1408 : (Jvm.Cond.methodLink "GrownPost" (358 : Nat) ({ cls := "GrownPost$Mail", name := "alikeFrom", desc := "(ILGrownPost$Mail;I)I" } : Jvm.MethodName)) ∈ zGW := zmem 1408 (by decide +kernel) (by decide +kernel)
theorem q1409 : (Jvm.Cond.instanceMethod ({ cls := "GrownPost$Mail", name := "alikeFrom", desc := "(ILGrownPost$Mail;I)I" } : Jvm.MethodName)) ∈ zGW := zmem 1409 (by decide +kernel) (by decide +kernel)
theorem q1410 : (Jvm.Cond.selects "GrownPost$Mail" ({ cls := "GrownPost$Mail", name := "alikeFrom", desc := "(ILGrownPost$Mail;I)I" } : Jvm.MethodName) ({ cls := "GrownPost$Mail", name := "alikeFrom", desc := "(ILGrownPost$Mail;I)I" } : Jvm.MethodName)) ∈ zGW := zmem 1410 (by decide +kernel) (by decide +kernel)
theorem q1412 : (Jvm.Cond.methodLink "GrownPost" (362 : Nat) ({ cls := "java/lang/Math", name := "max", desc := "(II)I" } : Jvm.MethodName)) ∈ zGW := zmem 1412 (by decide +kernel) (by decide +kernel)
theorem q1435 : (Jvm.Cond.methodLink "GrownPost" (369 : Nat) ({ cls := "GrownPost$Shelving", name := "clear", desc := "()V" } : Jvm.MethodName)) ∈ zGW := zmem 1435 (by decide +kernel) (by decide +kernel)
theorem q1436 : (Jvm.Cond.instanceMethod ({ cls := "GrownPost$Shelving", name := "clear", desc := "()V" } : Jvm.MethodName)) ∈ zGW := zmem 1436 (by decide +kernel) (by decide +kernel)
theorem q1437 : (Jvm.Cond.selects "GrownPost$Shelving" ({ cls := "GrownPost$Shelving", name := "clear", desc := "()V" } : Jvm.MethodName) ({ cls := "GrownPost$Shelving", name := "clear", desc := "()V" } : Jvm.MethodName)) ∈ zGW := zmem 1437 (by decide +kernel) (by decide +kernel)
theorem q1439 : (Jvm.Cond.methodLink "GrownPost" (370 : Nat) ({ cls := "GrownPost$Shelving", name := "add", desc := "(I)V" } : Jvm.MethodName)) ∈ zGW := zmem 1439 (by decide +kernel) (by decide +kernel)
theorem q1440 : (Jvm.Cond.instanceMethod ({ cls := "GrownPost$Shelving", name := "add", desc := "(I)V" } : Jvm.MethodName)) ∈ zGW := zmem 1440 (by decide +kernel) (by decide +kernel)
theorem q1441 : (Jvm.Cond.selects "GrownPost$Shelving" ({ cls := "GrownPost$Shelving", name := "add", desc := "(I)V" } : Jvm.MethodName) ({ cls := "GrownPost$Shelving", name := "add", desc := "(I)V" } : Jvm.MethodName)) ∈ zGW := zmem 1441 (by decide +kernel) (by decide +kernel)
theorem q1443 : (Jvm.Cond.methodLink "GrownPost" (372 : Nat) ({ cls := "GrownPost$Shelving", name := "mostOnOne", desc := "(I)I" } : Jvm.MethodName)) ∈ zGW := zmem 1443 (by decide +kernel) (by decide +kernel)
theorem q1444 : (Jvm.Cond.instanceMethod ({ cls := "GrownPost$Shelving", name := "mostOnOne", desc := "(I)I" } : Jvm.MethodName)) ∈ zGW := zmem 1444 (by decide +kernel) (by decide +kernel)
theorem q1445 : (Jvm.Cond.selects "GrownPost$Shelving" ({ cls := "GrownPost$Shelving", name := "mostOnOne", desc := "(I)I" } : Jvm.MethodName) ({ cls := "GrownPost$Shelving", name := "mostOnOne", desc := "(I)I" } : Jvm.MethodName)) ∈ zGW := zmem 1445 (by decide +kernel) (by decide +kernel)
theorem q1447 : (Jvm.Cond.methodLink "GrownPost$Shelving" (22 : Nat) ({ cls := "java/lang/Integer", name := "bitCount", desc := "(I)I" } : Jvm.MethodName)) ∈ zGW := zmem 1447 (by decide +kernel) (by decide +kernel)
theorem q1448 : (Jvm.Cond.methodLink "GrownPost$Shelving" (28 : Nat) ({ cls := "java/lang/Math", name := "max", desc := "(II)I" } : Jvm.MethodName)) ∈ zGW := zmem 1448 (by decide +kernel) (by decide +kernel)
theorem q1449 : (Jvm.Cond.methodLink "GrownPost" (375 : Nat) ({ cls := "GrownPost$Shelving", name := "fewestShelves", desc := "(I)I" } : Jvm.MethodName)) ∈ zGW := zmem 1449 (by decide +kernel) (by decide +kernel)
theorem q1450 : (Jvm.Cond.instanceMethod ({ cls := "GrownPost$Shelving", name := "fewestShelves", desc := "(I)I" } : Jvm.MethodName)) ∈ zGW := zmem 1450 (by decide +kernel) (by decide +kernel)
theorem q1451 : (Jvm.Cond.selects "GrownPost$Shelving" ({ cls := "GrownPost$Shelving", name := "fewestShelves", desc := "(I)I" } : Jvm.MethodName) ({ cls := "GrownPost$Shelving", name := "fewestShelves", desc := "(I)I" } : Jvm.MethodName)) ∈ zGW := zmem 1451 (by decide +kernel) (by decide +kernel)
theorem q1460 : (Jvm.Cond.methodLink "GrownPost" (378 : Nat) ({ cls := "GrownPost", name := "tallyTempers", desc := "(LGrownPost$Mail;I)V" } : Jvm.MethodName)) ∈ zGW := zmem 1460 (by decide +kernel) (by decide +kernel)
theorem q1462 : (Jvm.Cond.instanceMethod ({ cls := "GrownPost", name := "tallyTempers", desc := "(LGrownPost$Mail;I)V" } : Jvm.MethodName)) ∈ zGW := zmem 1462 (by decide +kernel) (by decide +kernel)
theorem q1471 : (Jvm.Cond.methodLink "GrownPost" (384 : Nat) ({ cls := "GrownPost", name := "tryWeeks", desc := "(II)V" } : Jvm.MethodName)) ∈ zGW := zmem 1471 (by decide +kernel) (by decide +kernel)
theorem q1473 : (Jvm.Cond.instanceMethod ({ cls := "GrownPost", name := "tryWeeks", desc := "(II)V" } : Jvm.MethodName)) ∈ zGW := zmem 1473 (by decide +kernel) (by decide +kernel)
theorem q1475 : (Jvm.Cond.methodLink "GrownPost" (430 : Nat) ({ cls := "GrownPost$Bag", name := "become", desc := "(LGrownPost$Bag;)V" } : Jvm.MethodName)) ∈ zGW := zmem 1475 (by decide +kernel) (by decide +kernel)
theorem q1483 : (Jvm.Cond.methodLink "GrownPost" (390 : Nat) ({ cls := "java/lang/Math", name := "min", desc := "(II)I" } : Jvm.MethodName)) ∈ zGW := zmem 1483 (by decide +kernel) (by decide +kernel)
theorem q1494 : (Jvm.Cond.fieldLink "GrownPostModel" (3 : Nat) "GrownPostModel" "thrown" "I") ∈ zGW := zmem 1494 (by decide +kernel) (by decide +kernel)
theorem q1495 : (Jvm.Cond.fieldLink "GrownPostModel" (13 : Nat) "GrownPostModel" "world" "[I") ∈ zGW := zmem 1495 (by decide +kernel) (by decide +kernel)
theorem q1496 : (Jvm.Cond.fieldLink "GrownPostModel" (17 : Nat) "GrownPostModel" "image" "[I") ∈ zGW := zmem 1496 (by decide +kernel) (by decide +kernel)
theorem q1497 : (Jvm.Cond.fieldLink "GrownPostModel" (20 : Nat) "GrownPostModel" "before" "[I") ∈ zGW := zmem 1497 (by decide +kernel) (by decide +kernel)
theorem q1498 : (Jvm.Cond.fieldLink "GrownPostModel" (23 : Nat) "GrownPostModel" "trial" "[I") ∈ zGW := zmem 1498 (by decide +kernel) (by decide +kernel)
theorem q1499 : (Jvm.Cond.fieldLink "GrownPostModel" (26 : Nat) "GrownPostModel" "acts" "[I") ∈ zGW := zmem 1499 (by decide +kernel) (by decide +kernel)
theorem q1500 : (Jvm.Cond.fieldLink "GrownPostModel" (60 : Nat) "GrownPostModel" "hasImage" "Z") ∈ zGW := zmem 1500 (by decide +kernel) (by decide +kernel)
theorem q1501 : (Jvm.Cond.fieldLink "GrownPostModel" (64 : Nat) "GrownPostModel" "remembered" "I") ∈ zGW := zmem 1501 (by decide +kernel) (by decide +kernel)
theorem q1502 : (Jvm.Cond.fieldLink "GrownPostModel" (29 : Nat) "GrownPostModel" "tape" "[B") ∈ zGW := zmem 1502 (by decide +kernel) (by decide +kernel)
theorem q1503 : (Jvm.Cond.fieldLink "GrownPostModel" (94 : Nat) "GrownPostModel" "taped" "I") ∈ zGW := zmem 1503 (by decide +kernel) (by decide +kernel)
theorem q1504 : (Jvm.Cond.fieldLink "GrownPostModel" (97 : Nat) "GrownPostModel" "point" "I") ∈ zGW := zmem 1504 (by decide +kernel) (by decide +kernel)
theorem q1505 : (Jvm.Cond.fieldLink "GrownPostModel" (100 : Nat) "GrownPostModel" "end" "I") ∈ zGW := zmem 1505 (by decide +kernel) (by decide +kernel)
theorem q1506 : (Jvm.Cond.fieldLink "GrownPostModel" (107 : Nat) "GrownPostModel" "begin" "I") ∈ zGW := zmem 1506 (by decide +kernel) (by decide +kernel)
theorem q1507 : (Jvm.Cond.fieldLink "GrownPostModel" (206 : Nat) "GrownPostModel" "deep" "I") ∈ zGW := zmem 1507 (by decide +kernel) (by decide +kernel)
theorem q1508 : (Jvm.Cond.fieldLink "GrownPostModel" (33 : Nat) "GrownPostModel" "faultAt" "I") ∈ zGW := zmem 1508 (by decide +kernel) (by decide +kernel)
theorem q1509 : (Jvm.Cond.fieldLink "GrownPostModel" (36 : Nat) "GrownPostModel" "five" "[I") ∈ zGW := zmem 1509 (by decide +kernel) (by decide +kernel)
theorem q1510 : (Jvm.Cond.fieldLink "GrownPostModel" (186 : Nat) "GrownPostModel" "steps" "I") ∈ zGW := zmem 1510 (by decide +kernel) (by decide +kernel)
theorem q1511 : (Jvm.Cond.fieldLink "GrownPostModel" (39 : Nat) "GrownPostModel" "value" "[I") ∈ zGW := zmem 1511 (by decide +kernel) (by decide +kernel)
theorem q1512 : (Jvm.Cond.fieldLink "GrownPostModel" (42 : Nat) "GrownPostModel" "row" "[I") ∈ zGW := zmem 1512 (by decide +kernel) (by decide +kernel)
theorem q1513 : (Jvm.Cond.fieldLink "GrownPostModel" (257 : Nat) "GrownPostModel" "many" "I") ∈ zGW := zmem 1513 (by decide +kernel) (by decide +kernel)
theorem q1514 : (Jvm.Cond.fieldLink "GrownPostModel" (260 : Nat) "GrownPostModel" "temper" "I") ∈ zGW := zmem 1514 (by decide +kernel) (by decide +kernel)
theorem q1515 : (Jvm.Cond.fieldLink "GrownPostModel" (267 : Nat) "GrownPostModel" "sender" "I") ∈ zGW := zmem 1515 (by decide +kernel) (by decide +kernel)
theorem q1516 : (Jvm.Cond.fieldLink "GrownPostModel" (262 : Nat) "GrownPostModel" "week" "I") ∈ zGW := zmem 1516 (by decide +kernel) (by decide +kernel)
theorem q1517 : (Jvm.Cond.fieldLink "GrownPostModel" (292 : Nat) "GrownPostModel" "open" "Z") ∈ zGW := zmem 1517 (by decide +kernel) (by decide +kernel)
theorem q1518 : (Jvm.Cond.fieldLink "GrownPostModel" (269 : Nat) "GrownPostModel" "hot" "Z") ∈ zGW := zmem 1518 (by decide +kernel) (by decide +kernel)
theorem q1519 : (Jvm.Cond.fieldLink "GrownPostModel" (45 : Nat) "GrownPostModel" "grown" "[I") ∈ zGW := zmem 1519 (by decide +kernel) (by decide +kernel)
theorem q1520 : (Jvm.Cond.fieldLink "GrownPostModel" (48 : Nat) "GrownPostModel" "manyThen" "[I") ∈ zGW := zmem 1520 (by decide +kernel) (by decide +kernel)
theorem q1521 : (Jvm.Cond.fieldLink "GrownPostModel" (51 : Nat) "GrownPostModel" "lengths" "[I") ∈ zGW := zmem 1521 (by decide +kernel) (by decide +kernel)
theorem q1522 : (Jvm.Cond.fieldLink "GrownPostModel" (54 : Nat) "GrownPostModel" "fewest" "[I") ∈ zGW := zmem 1522 (by decide +kernel) (by decide +kernel)
theorem q1523 : (Jvm.Cond.fieldLink "GrownPostModel" (57 : Nat) "GrownPostModel" "leading" "[I") ∈ zGW := zmem 1523 (by decide +kernel) (by decide +kernel)
theorem q1613 : (Jvm.Cond.methodLink "GrownPostModel" (250 : Nat) ({ cls := "GrownPostModel", name := "readAll", desc := "(Z)I" } : Jvm.MethodName)) ∈ zGW := zmem 1613 (by decide +kernel) (by decide +kernel)
theorem q1615 : (Jvm.Cond.instanceMethod ({ cls := "GrownPostModel", name := "readAll", desc := "(Z)I" } : Jvm.MethodName)) ∈ zGW := zmem 1615 (by decide +kernel) (by decide +kernel)
theorem q1617 : (Jvm.Cond.methodLink "GrownPostModel" (243 : Nat) ({ cls := "GrownPostModel", name := "uses", desc := "()V" } : Jvm.MethodName)) ∈ zGW := zmem 1617 (by decide +kernel) (by decide +kernel)
theorem q1619 : (Jvm.Cond.instanceMethod ({ cls := "GrownPostModel", name := "uses", desc := "()V" } : Jvm.MethodName)) ∈ zGW := zmem 1619 (by decide +kernel) (by decide +kernel)
theorem q1621 : (Jvm.Cond.methodLink "GrownPostModel" (110 : Nat) ({ cls := "GrownPostModel", name := "blanks", desc := "()V" } : Jvm.MethodName)) ∈ zGW := zmem 1621 (by decide +kernel) (by decide +kernel)
theorem q1623 : (Jvm.Cond.instanceMethod ({ cls := "GrownPostModel", name := "blanks", desc := "()V" } : Jvm.MethodName)) ∈ zGW := zmem 1623 (by decide +kernel) (by decide +kernel)
theorem q1625 : (Jvm.Cond.methodLink "GrownPostModel" (103 : Nat) ({ cls := "GrownPostModel", name := "isAt", desc := "(II)Z" } : Jvm.MethodName)) ∈ zGW := zmem 1625 (by decide +kernel) (by decide +kernel)
theorem q1627 : (Jvm.Cond.instanceMethod ({ cls := "GrownPostModel", name := "isAt", desc := "(II)Z" } : Jvm.MethodName)) ∈ zGW := zmem 1627 (by decide +kernel) (by decide +kernel)
theorem q1629 : (Jvm.Cond.methodLink "GrownPostModel" (246 : Nat) ({ cls := "GrownPostModel", name := "readLine", desc := "(ZI)Z" } : Jvm.MethodName)) ∈ zGW := zmem 1629 (by decide +kernel) (by decide +kernel)
theorem q1631 : (Jvm.Cond.instanceMethod ({ cls := "GrownPostModel", name := "readLine", desc := "(ZI)Z" } : Jvm.MethodName)) ∈ zGW := zmem 1631 (by decide +kernel) (by decide +kernel)
theorem q1633 : (Jvm.Cond.methodLink "GrownPostModel" (122 : Nat) ({ cls := "GrownPostModel", name := "lettersPass", desc := "()V" } : Jvm.MethodName)) ∈ zGW := zmem 1633 (by decide +kernel) (by decide +kernel)
theorem q1635 : (Jvm.Cond.instanceMethod ({ cls := "GrownPostModel", name := "lettersPass", desc := "()V" } : Jvm.MethodName)) ∈ zGW := zmem 1635 (by decide +kernel) (by decide +kernel)
theorem q1637 : (Jvm.Cond.methodLink "GrownPostModel" (237 : Nat) ({ cls := "GrownPostModel", name := "readPostLine", desc := "()Z" } : Jvm.MethodName)) ∈ zGW := zmem 1637 (by decide +kernel) (by decide +kernel)
theorem q1639 : (Jvm.Cond.instanceMethod ({ cls := "GrownPostModel", name := "readPostLine", desc := "()Z" } : Jvm.MethodName)) ∈ zGW := zmem 1639 (by decide +kernel) (by decide +kernel)
theorem q1642 : (Jvm.Cond.methodLink "GrownPostModel" (125 : Nat) ({ cls := "GrownPostModel", name := "isWord", desc := "(Ljava/lang/String;)Z" } : Jvm.MethodName)) ∈ zGW := zmem 1642 (by decide +kernel) (by decide +kernel)
theorem q1644 : (Jvm.Cond.instanceMethod ({ cls := "GrownPostModel", name := "isWord", desc := "(Ljava/lang/String;)Z" } : Jvm.MethodName)) ∈ zGW := zmem 1644 (by decide +kernel) (by decide +kernel)
theorem q1646 : (Jvm.Cond.methodLink "GrownPostModel" (113 : Nat) ({ cls := "java/lang/String", name := "length", desc := "()I" } : Jvm.MethodName)) ∈ zGW := zmem 1646 (by decide +kernel) (by decide +kernel)
theorem q1647 : (Jvm.Cond.methodLink "GrownPostModel" (118 : Nat) ({ cls := "java/lang/String", name := "charAt", desc := "(I)C" } : Jvm.MethodName)) ∈ zGW := zmem 1647 (by decide +kernel) (by decide +kernel)
theorem q1648 : (Jvm.Cond.methodLink "GrownPostModel" (158 : Nat) ({ cls := "GrownPostModel", name := "readLetter", desc := "()Z" } : Jvm.MethodName)) ∈ zGW := zmem 1648 (by decide +kernel) (by decide +kernel)
theorem q1650 : (Jvm.Cond.instanceMethod ({ cls := "GrownPostModel", name := "readLetter", desc := "()Z" } : Jvm.MethodName)) ∈ zGW := zmem 1650 (by decide +kernel) (by decide +kernel)
theorem q1652 : (Jvm.Cond.methodLink "GrownPostModel" (74 : Nat) ({ cls := "GrownPostModel", name := "letters", desc := "()I" } : Jvm.MethodName)) ∈ zGW := zmem 1652 (by decide +kernel) (by decide +kernel)
theorem q1654 : (Jvm.Cond.instanceMethod ({ cls := "GrownPostModel", name := "letters", desc := "()I" } : Jvm.MethodName)) ∈ zGW := zmem 1654 (by decide +kernel) (by decide +kernel)
theorem q1657 : (Jvm.Cond.methodLink "GrownPostModel" (140 : Nat) ({ cls := "GrownPostModel", name := "after", desc := "(Ljava/lang/String;II)I" } : Jvm.MethodName)) ∈ zGW := zmem 1657 (by decide +kernel) (by decide +kernel)
theorem q1659 : (Jvm.Cond.instanceMethod ({ cls := "GrownPostModel", name := "after", desc := "(Ljava/lang/String;II)I" } : Jvm.MethodName)) ∈ zGW := zmem 1659 (by decide +kernel) (by decide +kernel)
theorem q1661 : (Jvm.Cond.methodLink "GrownPostModel" (129 : Nat) ({ cls := "GrownPostModel", name := "number", desc := "(II)I" } : Jvm.MethodName)) ∈ zGW := zmem 1661 (by decide +kernel) (by decide +kernel)
theorem q1663 : (Jvm.Cond.instanceMethod ({ cls := "GrownPostModel", name := "number", desc := "(II)I" } : Jvm.MethodName)) ∈ zGW := zmem 1663 (by decide +kernel) (by decide +kernel)
theorem q1666 : (Jvm.Cond.methodLink "GrownPostModel" (78 : Nat) ({ cls := "GrownPostModel", name := "in", desc := "(III)Z" } : Jvm.MethodName)) ∈ zGW := zmem 1666 (by decide +kernel) (by decide +kernel)
theorem q1667 : (Jvm.Cond.static ({ cls := "GrownPostModel", name := "in", desc := "(III)Z" } : Jvm.MethodName)) ∈ zGW := zmem 1667 (by decide +kernel) (by decide +kernel)
theorem q1669 : (Jvm.Cond.methodLink "GrownPostModel" (146 : Nat) ({ cls := "GrownPostModel", name := "begins", desc := "(II)I" } : Jvm.MethodName)) ∈ zGW := zmem 1669 (by decide +kernel) (by decide +kernel)
theorem q1671 : (Jvm.Cond.instanceMethod ({ cls := "GrownPostModel", name := "begins", desc := "(II)I" } : Jvm.MethodName)) ∈ zGW := zmem 1671 (by decide +kernel) (by decide +kernel)
theorem q1673 : (Jvm.Cond.methodLink "GrownPostModel" (67 : Nat) ({ cls := "GrownPostModel", name := "at", desc := "(II)I" } : Jvm.MethodName)) ∈ zGW := zmem 1673 (by decide +kernel) (by decide +kernel)
theorem q1674 : (Jvm.Cond.static ({ cls := "GrownPostModel", name := "at", desc := "(II)I" } : Jvm.MethodName)) ∈ zGW := zmem 1674 (by decide +kernel) (by decide +kernel)
theorem q1676 : (Jvm.Cond.methodLink "GrownPostModel" (132 : Nat) ({ cls := "GrownPostModel", name := "kindBy", desc := "(I)I" } : Jvm.MethodName)) ∈ zGW := zmem 1676 (by decide +kernel) (by decide +kernel)
theorem q1677 : (Jvm.Cond.static ({ cls := "GrownPostModel", name := "kindBy", desc := "(I)I" } : Jvm.MethodName)) ∈ zGW := zmem 1677 (by decide +kernel) (by decide +kernel)
theorem q1679 : (Jvm.Cond.methodLink "GrownPostModel" (149 : Nat) ({ cls := "GrownPostModel", name := "comes", desc := "(II)V" } : Jvm.MethodName)) ∈ zGW := zmem 1679 (by decide +kernel) (by decide +kernel)
theorem q1681 : (Jvm.Cond.instanceMethod ({ cls := "GrownPostModel", name := "comes", desc := "(II)V" } : Jvm.MethodName)) ∈ zGW := zmem 1681 (by decide +kernel) (by decide +kernel)
theorem q1683 : (Jvm.Cond.methodLink "GrownPostModel" (86 : Nat) ({ cls := "GrownPostModel", name := "lines", desc := "(I)I" } : Jvm.MethodName)) ∈ zGW := zmem 1683 (by decide +kernel) (by decide +kernel)
theorem q1685 : (Jvm.Cond.instanceMethod ({ cls := "GrownPostModel", name := "lines", desc := "(I)I" } : Jvm.MethodName)) ∈ zGW := zmem 1685 (by decide +kernel) (by decide +kernel)
theorem q1687 : (Jvm.Cond.methodLink "GrownPostModel" (71 : Nat) ({ cls := "GrownPostModel", name := "of", desc := "(II)I" } : Jvm.MethodName)) ∈ zGW := zmem 1687 (by decide +kernel) (by decide +kernel)
theorem q1689 : (Jvm.Cond.instanceMethod ({ cls := "GrownPostModel", name := "of", desc := "(II)I" } : Jvm.MethodName)) ∈ zGW := zmem 1689 (by decide +kernel) (by decide +kernel)
theorem q1692 : (Jvm.Cond.methodLink "GrownPostModel" (164 : Nat) ({ cls := "GrownPostModel", name := "readWords", desc := "()Z" } : Jvm.MethodName)) ∈ zGW := zmem 1692 (by decide +kernel) (by decide +kernel)
theorem q1694 : (Jvm.Cond.instanceMethod ({ cls := "GrownPostModel", name := "readWords", desc := "()Z" } : Jvm.MethodName)) ∈ zGW := zmem 1694 (by decide +kernel) (by decide +kernel)
theorem q1696 : (Jvm.Cond.methodLink "GrownPostModel" (153 : Nat) ({ cls := "GrownPostModel", name := "kindNext", desc := "()I" } : Jvm.MethodName)) ∈ zGW := zmem 1696 (by decide +kernel) (by decide +kernel)
theorem q1698 : (Jvm.Cond.instanceMethod ({ cls := "GrownPostModel", name := "kindNext", desc := "()I" } : Jvm.MethodName)) ∈ zGW := zmem 1698 (by decide +kernel) (by decide +kernel)
theorem q1700 : (Jvm.Cond.methodLink "GrownPostModel" (135 : Nat) ({ cls := "GrownPostModel", name := "kindTold", desc := "()I" } : Jvm.MethodName)) ∈ zGW := zmem 1700 (by decide +kernel) (by decide +kernel)
theorem q1702 : (Jvm.Cond.instanceMethod ({ cls := "GrownPostModel", name := "kindTold", desc := "()I" } : Jvm.MethodName)) ∈ zGW := zmem 1702 (by decide +kernel) (by decide +kernel)
theorem q1705 : (Jvm.Cond.methodLink "GrownPostModel" (169 : Nat) ({ cls := "GrownPostModel", name := "readPromise", desc := "()Z" } : Jvm.MethodName)) ∈ zGW := zmem 1705 (by decide +kernel) (by decide +kernel)
theorem q1707 : (Jvm.Cond.instanceMethod ({ cls := "GrownPostModel", name := "readPromise", desc := "()Z" } : Jvm.MethodName)) ∈ zGW := zmem 1707 (by decide +kernel) (by decide +kernel)
theorem q1709 : (Jvm.Cond.methodLink "GrownPostModel" (90 : Nat) ({ cls := "GrownPostModel", name := "promises", desc := "()I" } : Jvm.MethodName)) ∈ zGW := zmem 1709 (by decide +kernel) (by decide +kernel)
theorem q1711 : (Jvm.Cond.instanceMethod ({ cls := "GrownPostModel", name := "promises", desc := "()I" } : Jvm.MethodName)) ∈ zGW := zmem 1711 (by decide +kernel) (by decide +kernel)
theorem q1714 : (Jvm.Cond.methodLink "GrownPostModel" (174 : Nat) ({ cls := "GrownPostModel", name := "readNumber", desc := "(III)Z" } : Jvm.MethodName)) ∈ zGW := zmem 1714 (by decide +kernel) (by decide +kernel)
theorem q1716 : (Jvm.Cond.instanceMethod ({ cls := "GrownPostModel", name := "readNumber", desc := "(III)Z" } : Jvm.MethodName)) ∈ zGW := zmem 1716 (by decide +kernel) (by decide +kernel)
theorem q1719 : (Jvm.Cond.methodLink "GrownPostModel" (179 : Nat) ({ cls := "GrownPostModel", name := "readOf", desc := "(I)Z" } : Jvm.MethodName)) ∈ zGW := zmem 1719 (by decide +kernel) (by decide +kernel)
theorem q1721 : (Jvm.Cond.instanceMethod ({ cls := "GrownPostModel", name := "readOf", desc := "(I)Z" } : Jvm.MethodName)) ∈ zGW := zmem 1721 (by decide +kernel) (by decide +kernel)
theorem q1725 : (Jvm.Cond.methodLink "GrownPostModel" (240 : Nat) ({ cls := "GrownPostModel", name := "readLawLine", desc := "(I)Z" } : Jvm.MethodName)) ∈ zGW := zmem 1725 (by decide +kernel) (by decide +kernel)
theorem q1727 : (Jvm.Cond.instanceMethod ({ cls := "GrownPostModel", name := "readLawLine", desc := "(I)Z" } : Jvm.MethodName)) ∈ zGW := zmem 1727 (by decide +kernel) (by decide +kernel)
theorem q1731 : (Jvm.Cond.methodLink "GrownPostModel" (214 : Nat) ({ cls := "GrownPostModel", name := "passes", desc := "(Ljava/lang/String;)Z" } : Jvm.MethodName)) ∈ zGW := zmem 1731 (by decide +kernel) (by decide +kernel)
theorem q1733 : (Jvm.Cond.instanceMethod ({ cls := "GrownPostModel", name := "passes", desc := "(Ljava/lang/String;)Z" } : Jvm.MethodName)) ∈ zGW := zmem 1733 (by decide +kernel) (by decide +kernel)
theorem q1735 : (Jvm.Cond.methodLink "GrownPostModel" (209 : Nat) ({ cls := "GrownPostModel", name := "readCond", desc := "()Z" } : Jvm.MethodName)) ∈ zGW := zmem 1735 (by decide +kernel) (by decide +kernel)
theorem q1737 : (Jvm.Cond.instanceMethod ({ cls := "GrownPostModel", name := "readCond", desc := "()Z" } : Jvm.MethodName)) ∈ zGW := zmem 1737 (by decide +kernel) (by decide +kernel)
theorem q1739 : (Jvm.Cond.methodLink "GrownPostModel" (228 : Nat) ({ cls := "GrownPostModel", name := "readAllOf", desc := "()Z" } : Jvm.MethodName)) ∈ zGW := zmem 1739 (by decide +kernel) (by decide +kernel)
theorem q1741 : (Jvm.Cond.instanceMethod ({ cls := "GrownPostModel", name := "readAllOf", desc := "()Z" } : Jvm.MethodName)) ∈ zGW := zmem 1741 (by decide +kernel) (by decide +kernel)
theorem q1743 : (Jvm.Cond.methodLink "GrownPostModel" (217 : Nat) ({ cls := "GrownPostModel", name := "readAtom", desc := "()Z" } : Jvm.MethodName)) ∈ zGW := zmem 1743 (by decide +kernel) (by decide +kernel)
theorem q1745 : (Jvm.Cond.instanceMethod ({ cls := "GrownPostModel", name := "readAtom", desc := "()Z" } : Jvm.MethodName)) ∈ zGW := zmem 1745 (by decide +kernel) (by decide +kernel)
theorem q1747 : (Jvm.Cond.methodLink "GrownPostModel" (201 : Nat) ({ cls := "GrownPostModel", name := "sign", desc := "(I)Z" } : Jvm.MethodName)) ∈ zGW := zmem 1747 (by decide +kernel) (by decide +kernel)
theorem q1749 : (Jvm.Cond.instanceMethod ({ cls := "GrownPostModel", name := "sign", desc := "(I)Z" } : Jvm.MethodName)) ∈ zGW := zmem 1749 (by decide +kernel) (by decide +kernel)
theorem q1752 : (Jvm.Cond.methodLink "GrownPostModel" (189 : Nat) ({ cls := "GrownPostModel", name := "emits", desc := "(II)V" } : Jvm.MethodName)) ∈ zGW := zmem 1752 (by decide +kernel) (by decide +kernel)
theorem q1754 : (Jvm.Cond.instanceMethod ({ cls := "GrownPostModel", name := "emits", desc := "(II)V" } : Jvm.MethodName)) ∈ zGW := zmem 1754 (by decide +kernel) (by decide +kernel)
theorem q1756 : (Jvm.Cond.methodLink "GrownPostModel" (220 : Nat) ({ cls := "GrownPostModel", name := "readTag", desc := "()Z" } : Jvm.MethodName)) ∈ zGW := zmem 1756 (by decide +kernel) (by decide +kernel)
theorem q1758 : (Jvm.Cond.instanceMethod ({ cls := "GrownPostModel", name := "readTag", desc := "()Z" } : Jvm.MethodName)) ∈ zGW := zmem 1758 (by decide +kernel) (by decide +kernel)
theorem q1761 : (Jvm.Cond.methodLink "GrownPostModel" (223 : Nat) ({ cls := "GrownPostModel", name := "readSum", desc := "()Z" } : Jvm.MethodName)) ∈ zGW := zmem 1761 (by decide +kernel) (by decide +kernel)
theorem q1763 : (Jvm.Cond.instanceMethod ({ cls := "GrownPostModel", name := "readSum", desc := "()Z" } : Jvm.MethodName)) ∈ zGW := zmem 1763 (by decide +kernel) (by decide +kernel)
theorem q1765 : (Jvm.Cond.methodLink "GrownPostModel" (198 : Nat) ({ cls := "GrownPostModel", name := "readPart", desc := "()Z" } : Jvm.MethodName)) ∈ zGW := zmem 1765 (by decide +kernel) (by decide +kernel)
theorem q1767 : (Jvm.Cond.instanceMethod ({ cls := "GrownPostModel", name := "readPart", desc := "()Z" } : Jvm.MethodName)) ∈ zGW := zmem 1767 (by decide +kernel) (by decide +kernel)
theorem q1775 : (Jvm.Cond.methodLink "GrownPostModel" (254 : Nat) ({ cls := "GrownPostModel", name := "throwsIf", desc := "(ZI)Z" } : Jvm.MethodName)) ∈ zGW := zmem 1775 (by decide +kernel) (by decide +kernel)
theorem q1777 : (Jvm.Cond.instanceMethod ({ cls := "GrownPostModel", name := "throwsIf", desc := "(ZI)Z" } : Jvm.MethodName)) ∈ zGW := zmem 1777 (by decide +kernel) (by decide +kernel)
theorem q1787 : (Jvm.Cond.methodLink "GrownPostModel" (82 : Nat) ({ cls := "GrownPostModel", name := "noLetter", desc := "(I)Z" } : Jvm.MethodName)) ∈ zGW := zmem 1787 (by decide +kernel) (by decide +kernel)
theorem q1789 : (Jvm.Cond.instanceMethod ({ cls := "GrownPostModel", name := "noLetter", desc := "(I)Z" } : Jvm.MethodName)) ∈ zGW := zmem 1789 (by decide +kernel) (by decide +kernel)
theorem q1791 : (Jvm.Cond.methodLink "GrownPostModel" (311 : Nat) ({ cls := "GrownPostModel", name := "looksAt", desc := "(I)V" } : Jvm.MethodName)) ∈ zGW := zmem 1791 (by decide +kernel) (by decide +kernel)
theorem q1793 : (Jvm.Cond.instanceMethod ({ cls := "GrownPostModel", name := "looksAt", desc := "(I)V" } : Jvm.MethodName)) ∈ zGW := zmem 1793 (by decide +kernel) (by decide +kernel)
theorem q1795 : (Jvm.Cond.methodLink "GrownPostModel" (286 : Nat) ({ cls := "GrownPostModel", name := "kindOf", desc := "(II)I" } : Jvm.MethodName)) ∈ zGW := zmem 1795 (by decide +kernel) (by decide +kernel)
theorem q1797 : (Jvm.Cond.instanceMethod ({ cls := "GrownPostModel", name := "kindOf", desc := "(II)I" } : Jvm.MethodName)) ∈ zGW := zmem 1797 (by decide +kernel) (by decide +kernel)
theorem q1799 : (Jvm.Cond.methodLink "GrownPostModel" (289 : Nat) ({ cls := "GrownPostModel", name := "isOpen", desc := "(I)Z" } : Jvm.MethodName)) ∈ zGW := zmem 1799 (by decide +kernel) (by decide +kernel)
theorem q1801 : (Jvm.Cond.instanceMethod ({ cls := "GrownPostModel", name := "isOpen", desc := "(I)Z" } : Jvm.MethodName)) ∈ zGW := zmem 1801 (by decide +kernel) (by decide +kernel)
theorem q1803 : (Jvm.Cond.methodLink "GrownPostModel" (318 : Nat) ({ cls := "GrownPostModel", name := "wordsNow", desc := "()I" } : Jvm.MethodName)) ∈ zGW := zmem 1803 (by decide +kernel) (by decide +kernel)
theorem q1805 : (Jvm.Cond.instanceMethod ({ cls := "GrownPostModel", name := "wordsNow", desc := "()I" } : Jvm.MethodName)) ∈ zGW := zmem 1805 (by decide +kernel) (by decide +kernel)
theorem q1807 : (Jvm.Cond.methodLink "GrownPostModel" (321 : Nat) ({ cls := "GrownPostModel", name := "last", desc := "()I" } : Jvm.MethodName)) ∈ zGW := zmem 1807 (by decide +kernel) (by decide +kernel)
theorem q1809 : (Jvm.Cond.instanceMethod ({ cls := "GrownPostModel", name := "last", desc := "()I" } : Jvm.MethodName)) ∈ zGW := zmem 1809 (by decide +kernel) (by decide +kernel)
theorem q1811 : (Jvm.Cond.methodLink "GrownPostModel" (297 : Nat) ({ cls := "GrownPostModel", name := "canGrow", desc := "()Z" } : Jvm.MethodName)) ∈ zGW := zmem 1811 (by decide +kernel) (by decide +kernel)
theorem q1813 : (Jvm.Cond.instanceMethod ({ cls := "GrownPostModel", name := "canGrow", desc := "()Z" } : Jvm.MethodName)) ∈ zGW := zmem 1813 (by decide +kernel) (by decide +kernel)
theorem q1815 : (Jvm.Cond.methodLink "GrownPostModel" (294 : Nat) ({ cls := "GrownPostModel", name := "follows", desc := "()I" } : Jvm.MethodName)) ∈ zGW := zmem 1815 (by decide +kernel) (by decide +kernel)
theorem q1817 : (Jvm.Cond.instanceMethod ({ cls := "GrownPostModel", name := "follows", desc := "()I" } : Jvm.MethodName)) ∈ zGW := zmem 1817 (by decide +kernel) (by decide +kernel)
theorem q1819 : (Jvm.Cond.methodLink "GrownPostModel" (274 : Nat) ({ cls := "GrownPostModel", name := "lawLines", desc := "()I" } : Jvm.MethodName)) ∈ zGW := zmem 1819 (by decide +kernel) (by decide +kernel)
theorem q1821 : (Jvm.Cond.instanceMethod ({ cls := "GrownPostModel", name := "lawLines", desc := "()I" } : Jvm.MethodName)) ∈ zGW := zmem 1821 (by decide +kernel) (by decide +kernel)
theorem q1823 : (Jvm.Cond.methodLink "GrownPostModel" (277 : Nat) ({ cls := "GrownPostModel", name := "lawFrom", desc := "(I)I" } : Jvm.MethodName)) ∈ zGW := zmem 1823 (by decide +kernel) (by decide +kernel)
theorem q1825 : (Jvm.Cond.instanceMethod ({ cls := "GrownPostModel", name := "lawFrom", desc := "(I)I" } : Jvm.MethodName)) ∈ zGW := zmem 1825 (by decide +kernel) (by decide +kernel)
theorem q1827 : (Jvm.Cond.methodLink "GrownPostModel" (280 : Nat) ({ cls := "GrownPostModel", name := "holdsLine", desc := "(I)Z" } : Jvm.MethodName)) ∈ zGW := zmem 1827 (by decide +kernel) (by decide +kernel)
theorem q1829 : (Jvm.Cond.instanceMethod ({ cls := "GrownPostModel", name := "holdsLine", desc := "(I)Z" } : Jvm.MethodName)) ∈ zGW := zmem 1829 (by decide +kernel) (by decide +kernel)
theorem q1831 : (Jvm.Cond.methodLink "GrownPostModel" (271 : Nat) ({ cls := "GrownPostModel", name := "factOf", desc := "(II)I" } : Jvm.MethodName)) ∈ zGW := zmem 1831 (by decide +kernel) (by decide +kernel)
theorem q1833 : (Jvm.Cond.instanceMethod ({ cls := "GrownPostModel", name := "factOf", desc := "(II)I" } : Jvm.MethodName)) ∈ zGW := zmem 1833 (by decide +kernel) (by decide +kernel)
theorem q1835 : (Jvm.Cond.methodLink "GrownPostModel" (264 : Nat) ({ cls := "GrownPostModel", name := "seasonOf", desc := "(I)I" } : Jvm.MethodName)) ∈ zGW := zmem 1835 (by decide +kernel) (by decide +kernel)
theorem q1836 : (Jvm.Cond.static ({ cls := "GrownPostModel", name := "seasonOf", desc := "(I)I" } : Jvm.MethodName)) ∈ zGW := zmem 1836 (by decide +kernel) (by decide +kernel)
theorem q1838 : (Jvm.Cond.methodLink "GrownPostModel" (283 : Nat) ({ cls := "GrownPostModel", name := "lawTo", desc := "(I)I" } : Jvm.MethodName)) ∈ zGW := zmem 1838 (by decide +kernel) (by decide +kernel)
theorem q1840 : (Jvm.Cond.instanceMethod ({ cls := "GrownPostModel", name := "lawTo", desc := "(I)I" } : Jvm.MethodName)) ∈ zGW := zmem 1840 (by decide +kernel) (by decide +kernel)
theorem q1846 : (Jvm.Cond.methodLink "GrownPostModel" (324 : Nat) ({ cls := "GrownPostModel", name := "noLine", desc := "(II)Z" } : Jvm.MethodName)) ∈ zGW := zmem 1846 (by decide +kernel) (by decide +kernel)
theorem q1848 : (Jvm.Cond.instanceMethod ({ cls := "GrownPostModel", name := "noLine", desc := "(II)Z" } : Jvm.MethodName)) ∈ zGW := zmem 1848 (by decide +kernel) (by decide +kernel)
theorem q1854 : (Jvm.Cond.methodLink "GrownPostModel" (327 : Nat) ({ cls := "GrownPostModel", name := "noKind", desc := "(I)Z" } : Jvm.MethodName)) ∈ zGW := zmem 1854 (by decide +kernel) (by decide +kernel)
theorem q1855 : (Jvm.Cond.static ({ cls := "GrownPostModel", name := "noKind", desc := "(I)Z" } : Jvm.MethodName)) ∈ zGW := zmem 1855 (by decide +kernel) (by decide +kernel)
theorem q1861 : (Jvm.Cond.methodLink "GrownPostModel" (330 : Nat) ({ cls := "GrownPostModel", name := "noPromise", desc := "(I)Z" } : Jvm.MethodName)) ∈ zGW := zmem 1861 (by decide +kernel) (by decide +kernel)
theorem q1863 : (Jvm.Cond.instanceMethod ({ cls := "GrownPostModel", name := "noPromise", desc := "(I)Z" } : Jvm.MethodName)) ∈ zGW := zmem 1863 (by decide +kernel) (by decide +kernel)
theorem q1865 : (Jvm.Cond.methodLink "GrownPostModel" (333 : Nat) ({ cls := "GrownPostModel", name := "ofPromise", desc := "(IZ)I" } : Jvm.MethodName)) ∈ zGW := zmem 1865 (by decide +kernel) (by decide +kernel)
theorem q1867 : (Jvm.Cond.instanceMethod ({ cls := "GrownPostModel", name := "ofPromise", desc := "(IZ)I" } : Jvm.MethodName)) ∈ zGW := zmem 1867 (by decide +kernel) (by decide +kernel)
theorem q1877 : (Jvm.Cond.methodLink "GrownPostModel" (337 : Nat) ({ cls := "GrownPostModel", name := "noSender", desc := "(II)Z" } : Jvm.MethodName)) ∈ zGW := zmem 1877 (by decide +kernel) (by decide +kernel)
theorem q1878 : (Jvm.Cond.static ({ cls := "GrownPostModel", name := "noSender", desc := "(II)Z" } : Jvm.MethodName)) ∈ zGW := zmem 1878 (by decide +kernel) (by decide +kernel)
theorem q1880 : (Jvm.Cond.methodLink "GrownPostModel" (340 : Nat) ({ cls := "GrownPostModel", name := "remembers", desc := "()V" } : Jvm.MethodName)) ∈ zGW := zmem 1880 (by decide +kernel) (by decide +kernel)
theorem q1882 : (Jvm.Cond.instanceMethod ({ cls := "GrownPostModel", name := "remembers", desc := "()V" } : Jvm.MethodName)) ∈ zGW := zmem 1882 (by decide +kernel) (by decide +kernel)
theorem q1888 : (Jvm.Cond.methodLink "GrownPostModel" (343 : Nat) ({ cls := "GrownPostModel", name := "turns", desc := "(IIZ)Z" } : Jvm.MethodName)) ∈ zGW := zmem 1888 (by decide +kernel) (by decide +kernel)
theorem q1890 : (Jvm.Cond.instanceMethod ({ cls := "GrownPostModel", name := "turns", desc := "(IIZ)Z" } : Jvm.MethodName)) ∈ zGW := zmem 1890 (by decide +kernel) (by decide +kernel)
theorem q1916 : (Jvm.Cond.methodLink "GrownPostModel" (353 : Nat) ({ cls := "GrownPostModel", name := "oneWeek", desc := "()I" } : Jvm.MethodName)) ∈ zGW := zmem 1916 (by decide +kernel) (by decide +kernel)
theorem q1918 : (Jvm.Cond.instanceMethod ({ cls := "GrownPostModel", name := "oneWeek", desc := "()I" } : Jvm.MethodName)) ∈ zGW := zmem 1918 (by decide +kernel) (by decide +kernel)
theorem q1920 : (Jvm.Cond.methodLink "GrownPostModel" (350 : Nat) ({ cls := "GrownPostModel", name := "grows", desc := "(I)I" } : Jvm.MethodName)) ∈ zGW := zmem 1920 (by decide +kernel) (by decide +kernel)
theorem q1922 : (Jvm.Cond.instanceMethod ({ cls := "GrownPostModel", name := "grows", desc := "(I)I" } : Jvm.MethodName)) ∈ zGW := zmem 1922 (by decide +kernel) (by decide +kernel)
theorem q1924 : (Jvm.Cond.methodLink "GrownPostModel" (347 : Nat) ({ cls := "GrownPostModel", name := "draw", desc := "(I)I" } : Jvm.MethodName)) ∈ zGW := zmem 1924 (by decide +kernel) (by decide +kernel)
theorem q1926 : (Jvm.Cond.instanceMethod ({ cls := "GrownPostModel", name := "draw", desc := "(I)I" } : Jvm.MethodName)) ∈ zGW := zmem 1926 (by decide +kernel) (by decide +kernel)
theorem q1928 : (Jvm.Cond.constant "GrownPostModel" (93 : Nat) (1103515245 : Int32)) ∈ zGW := zmem 1928 (by decide +kernel) (by decide +kernel)
theorem q1929 : (Jvm.Cond.methodLink "GrownPostModel" (303 : Nat) ({ cls := "java/lang/Math", name := "min", desc := "(II)I" } : Jvm.MethodName)) ∈ zGW := zmem 1929 (by decide +kernel) (by decide +kernel)
theorem q1934 : (Jvm.Cond.methodLink "GrownPostModel" (356 : Nat) ({ cls := "GrownPostModel", name := "noAhead", desc := "(I)Z" } : Jvm.MethodName)) ∈ zGW := zmem 1934 (by decide +kernel) (by decide +kernel)
theorem q1935 : (Jvm.Cond.static ({ cls := "GrownPostModel", name := "noAhead", desc := "(I)Z" } : Jvm.MethodName)) ∈ zGW := zmem 1935 (by decide +kernel) (by decide +kernel)
theorem q1937 : (Jvm.Cond.methodLink "GrownPostModel" (359 : Nat) ({ cls := "GrownPostModel", name := "looksAhead", desc := "(II)V" } : Jvm.MethodName)) ∈ zGW := zmem 1937 (by decide +kernel) (by decide +kernel)
theorem q1939 : (Jvm.Cond.instanceMethod ({ cls := "GrownPostModel", name := "looksAhead", desc := "(II)V" } : Jvm.MethodName)) ∈ zGW := zmem 1939 (by decide +kernel) (by decide +kernel)
theorem q1941 : (Jvm.Cond.methodLink "GrownPostModel" (315 : Nat) ({ cls := "GrownPostModel", name := "goesFor", desc := "(I)V" } : Jvm.MethodName)) ∈ zGW := zmem 1941 (by decide +kernel) (by decide +kernel)
theorem q1943 : (Jvm.Cond.instanceMethod ({ cls := "GrownPostModel", name := "goesFor", desc := "(I)V" } : Jvm.MethodName)) ∈ zGW := zmem 1943 (by decide +kernel) (by decide +kernel)
theorem q1945 : (Jvm.Cond.methodLink "GrownPostModel" (308 : Nat) ({ cls := "GrownPostModel", name := "goesOn", desc := "()V" } : Jvm.MethodName)) ∈ zGW := zmem 1945 (by decide +kernel) (by decide +kernel)
theorem q1947 : (Jvm.Cond.instanceMethod ({ cls := "GrownPostModel", name := "goesOn", desc := "()V" } : Jvm.MethodName)) ∈ zGW := zmem 1947 (by decide +kernel) (by decide +kernel)
theorem q1949 : (Jvm.Cond.methodLink "GrownPostModel" (300 : Nat) ({ cls := "GrownPostModel", name := "growsOnce", desc := "()V" } : Jvm.MethodName)) ∈ zGW := zmem 1949 (by decide +kernel) (by decide +kernel)
theorem q1951 : (Jvm.Cond.instanceMethod ({ cls := "GrownPostModel", name := "growsOnce", desc := "()V" } : Jvm.MethodName)) ∈ zGW := zmem 1951 (by decide +kernel) (by decide +kernel)
theorem q1957 : (Jvm.Cond.methodLink "GrownPostModel" (365 : Nat) ({ cls := "GrownPostModel", name := "saysBy", desc := "(IIZ)I" } : Jvm.MethodName)) ∈ zGW := zmem 1957 (by decide +kernel) (by decide +kernel)
theorem q1959 : (Jvm.Cond.instanceMethod ({ cls := "GrownPostModel", name := "saysBy", desc := "(IIZ)I" } : Jvm.MethodName)) ∈ zGW := zmem 1959 (by decide +kernel) (by decide +kernel)
theorem q1961 : (Jvm.Cond.methodLink "GrownPostModel" (362 : Nat) ({ cls := "GrownPostModel", name := "holdsKind", desc := "(I)Z" } : Jvm.MethodName)) ∈ zGW := zmem 1961 (by decide +kernel) (by decide +kernel)
theorem q1963 : (Jvm.Cond.instanceMethod ({ cls := "GrownPostModel", name := "holdsKind", desc := "(I)Z" } : Jvm.MethodName)) ∈ zGW := zmem 1963 (by decide +kernel) (by decide +kernel)
theorem q1977 : (Jvm.Cond.methodLink "GrownPostModel" (369 : Nat) ({ cls := "GrownPostModel", name := "leads", desc := "(IIIII)Z" } : Jvm.MethodName)) ∈ zGW := zmem 1977 (by decide +kernel) (by decide +kernel)
theorem q1979 : (Jvm.Cond.instanceMethod ({ cls := "GrownPostModel", name := "leads", desc := "(IIIII)Z" } : Jvm.MethodName)) ∈ zGW := zmem 1979 (by decide +kernel) (by decide +kernel)
theorem q1993 : (Jvm.Cond.methodLink "GrownPostModel" (373 : Nat) ({ cls := "GrownPostModel", name := "astrayOf", desc := "(I)I" } : Jvm.MethodName)) ∈ zGW := zmem 1993 (by decide +kernel) (by decide +kernel)
theorem q1995 : (Jvm.Cond.instanceMethod ({ cls := "GrownPostModel", name := "astrayOf", desc := "(I)I" } : Jvm.MethodName)) ∈ zGW := zmem 1995 (by decide +kernel) (by decide +kernel)
theorem q2001 : (Jvm.Cond.methodLink "GrownPostModel" (376 : Nat) ({ cls := "java/lang/Integer", name := "numberOfLeadingZeros", desc := "(I)I" } : Jvm.MethodName)) ∈ zGW := zmem 2001 (by decide +kernel) (by decide +kernel)
theorem q2002 : (Jvm.Cond.static ({ cls := "java/lang/Integer", name := "numberOfLeadingZeros", desc := "(I)I" } : Jvm.MethodName)) ∈ zGW := zmem 2002 (by decide +kernel) (by decide +kernel)
theorem q2004 : (Jvm.Cond.constant "java/lang/Integer" (264 : Nat) (65536 : Int32)) ∈ zGW := zmem 2004 (by decide +kernel) (by decide +kernel)
theorem q2009 : (Jvm.Cond.methodLink "GrownPostModel" (381 : Nat) ({ cls := "GrownPostModel", name := "hasSense", desc := "(II)Z" } : Jvm.MethodName)) ∈ zGW := zmem 2009 (by decide +kernel) (by decide +kernel)
theorem q2011 : (Jvm.Cond.instanceMethod ({ cls := "GrownPostModel", name := "hasSense", desc := "(II)Z" } : Jvm.MethodName)) ∈ zGW := zmem 2011 (by decide +kernel) (by decide +kernel)
theorem q2017 : (Jvm.Cond.methodLink "GrownPostModel" (384 : Nat) ({ cls := "java/lang/Integer", name := "bitCount", desc := "(I)I" } : Jvm.MethodName)) ∈ zGW := zmem 2017 (by decide +kernel) (by decide +kernel)
theorem q2022 : (Jvm.Cond.methodLink "GrownPostModel" (394 : Nat) ({ cls := "GrownPostModel", name := "meetOf", desc := "(IIZ)I" } : Jvm.MethodName)) ∈ zGW := zmem 2022 (by decide +kernel) (by decide +kernel)
theorem q2024 : (Jvm.Cond.instanceMethod ({ cls := "GrownPostModel", name := "meetOf", desc := "(IIZ)I" } : Jvm.MethodName)) ∈ zGW := zmem 2024 (by decide +kernel) (by decide +kernel)
theorem q2026 : (Jvm.Cond.methodLink "GrownPostModel" (387 : Nat) ({ cls := "GrownPostModel", name := "growsAll", desc := "(I)V" } : Jvm.MethodName)) ∈ zGW := zmem 2026 (by decide +kernel) (by decide +kernel)
theorem q2028 : (Jvm.Cond.instanceMethod ({ cls := "GrownPostModel", name := "growsAll", desc := "(I)V" } : Jvm.MethodName)) ∈ zGW := zmem 2028 (by decide +kernel) (by decide +kernel)
theorem q2030 : (Jvm.Cond.methodLink "GrownPostModel" (390 : Nat) ({ cls := "GrownPostModel", name := "isMet", desc := "(IZ)Z" } : Jvm.MethodName)) ∈ zGW := zmem 2030 (by decide +kernel) (by decide +kernel)
theorem q2032 : (Jvm.Cond.instanceMethod ({ cls := "GrownPostModel", name := "isMet", desc := "(IZ)Z" } : Jvm.MethodName)) ∈ zGW := zmem 2032 (by decide +kernel) (by decide +kernel)
theorem q2046 : (Jvm.Cond.methodLink "GrownPostModel" (397 : Nat) ({ cls := "GrownPostModel", name := "alikeFrom", desc := "(IIII)I" } : Jvm.MethodName)) ∈ zGW := zmem 2046 (by decide +kernel) (by decide +kernel)
theorem q2048 : (Jvm.Cond.instanceMethod ({ cls := "GrownPostModel", name := "alikeFrom", desc := "(IIII)I" } : Jvm.MethodName)) ∈ zGW := zmem 2048 (by decide +kernel) (by decide +kernel)
theorem q2050 : (Jvm.Cond.methodLink "GrownPostModel" (401 : Nat) ({ cls := "java/lang/Math", name := "max", desc := "(II)I" } : Jvm.MethodName)) ∈ zGW := zmem 2050 (by decide +kernel) (by decide +kernel)
theorem q2063 : (Jvm.Cond.methodLink "GrownPostModel" (407 : Nat) ({ cls := "GrownPostModel", name := "boundNow", desc := "()I" } : Jvm.MethodName)) ∈ zGW := zmem 2063 (by decide +kernel) (by decide +kernel)
theorem q2065 : (Jvm.Cond.instanceMethod ({ cls := "GrownPostModel", name := "boundNow", desc := "()I" } : Jvm.MethodName)) ∈ zGW := zmem 2065 (by decide +kernel) (by decide +kernel)
theorem q2067 : (Jvm.Cond.methodLink "GrownPostModel" (404 : Nat) ({ cls := "GrownPostModel", name := "isBound", desc := "(I)Z" } : Jvm.MethodName)) ∈ zGW := zmem 2067 (by decide +kernel) (by decide +kernel)
theorem q2069 : (Jvm.Cond.instanceMethod ({ cls := "GrownPostModel", name := "isBound", desc := "(I)Z" } : Jvm.MethodName)) ∈ zGW := zmem 2069 (by decide +kernel) (by decide +kernel)
theorem q2075 : (Jvm.Cond.methodLink "GrownPostModel" (410 : Nat) ({ cls := "GrownPostModel", name := "whenOf", desc := "(II)I" } : Jvm.MethodName)) ∈ zGW := zmem 2075 (by decide +kernel) (by decide +kernel)
theorem q2077 : (Jvm.Cond.instanceMethod ({ cls := "GrownPostModel", name := "whenOf", desc := "(II)I" } : Jvm.MethodName)) ∈ zGW := zmem 2077 (by decide +kernel) (by decide +kernel)
theorem q2099 : (Jvm.Cond.methodLink "GrownPostModel" (413 : Nat) ({ cls := "GrownPostModel", name := "postageOf", desc := "(II)I" } : Jvm.MethodName)) ∈ zGW := zmem 2099 (by decide +kernel) (by decide +kernel)
theorem q2101 : (Jvm.Cond.instanceMethod ({ cls := "GrownPostModel", name := "postageOf", desc := "(II)I" } : Jvm.MethodName)) ∈ zGW := zmem 2101 (by decide +kernel) (by decide +kernel)
theorem q2107 : (Jvm.Cond.methodLink "GrownPostModel" (416 : Nat) ({ cls := "GrownPostModel", name := "forkOf", desc := "(III)I" } : Jvm.MethodName)) ∈ zGW := zmem 2107 (by decide +kernel) (by decide +kernel)
theorem q2109 : (Jvm.Cond.instanceMethod ({ cls := "GrownPostModel", name := "forkOf", desc := "(III)I" } : Jvm.MethodName)) ∈ zGW := zmem 2109 (by decide +kernel) (by decide +kernel)
theorem q2115 : (Jvm.Cond.methodLink "GrownPostModel" (426 : Nat) ({ cls := "GrownPostModel", name := "fewestOf", desc := "(II)I" } : Jvm.MethodName)) ∈ zGW := zmem 2115 (by decide +kernel) (by decide +kernel)
theorem q2117 : (Jvm.Cond.instanceMethod ({ cls := "GrownPostModel", name := "fewestOf", desc := "(II)I" } : Jvm.MethodName)) ∈ zGW := zmem 2117 (by decide +kernel) (by decide +kernel)
theorem q2119 : (Jvm.Cond.methodLink "GrownPostModel" (423 : Nat) ({ cls := "GrownPostModel", name := "lengthOf", desc := "(I)I" } : Jvm.MethodName)) ∈ zGW := zmem 2119 (by decide +kernel) (by decide +kernel)
theorem q2121 : (Jvm.Cond.instanceMethod ({ cls := "GrownPostModel", name := "lengthOf", desc := "(I)I" } : Jvm.MethodName)) ∈ zGW := zmem 2121 (by decide +kernel) (by decide +kernel)
theorem q2123 : (Jvm.Cond.methodLink "GrownPostModel" (420 : Nat) ({ cls := "GrownPostModel", name := "hasBit", desc := "(II)Z" } : Jvm.MethodName)) ∈ zGW := zmem 2123 (by decide +kernel) (by decide +kernel)
theorem q2124 : (Jvm.Cond.static ({ cls := "GrownPostModel", name := "hasBit", desc := "(II)Z" } : Jvm.MethodName)) ∈ zGW := zmem 2124 (by decide +kernel) (by decide +kernel)
theorem q2134 : (Jvm.Cond.methodLink "GrownPostModel" (429 : Nat) ({ cls := "GrownPostModel", name := "keepsAll", desc := "()V" } : Jvm.MethodName)) ∈ zGW := zmem 2134 (by decide +kernel) (by decide +kernel)
theorem q2136 : (Jvm.Cond.instanceMethod ({ cls := "GrownPostModel", name := "keepsAll", desc := "()V" } : Jvm.MethodName)) ∈ zGW := zmem 2136 (by decide +kernel) (by decide +kernel)
theorem q2138 : (Jvm.Cond.methodLink "GrownPostModel" (432 : Nat) ({ cls := "GrownPostModel", name := "allLines", desc := "()I" } : Jvm.MethodName)) ∈ zGW := zmem 2138 (by decide +kernel) (by decide +kernel)
theorem q2140 : (Jvm.Cond.instanceMethod ({ cls := "GrownPostModel", name := "allLines", desc := "()I" } : Jvm.MethodName)) ∈ zGW := zmem 2140 (by decide +kernel) (by decide +kernel)
theorem q2142 : (Jvm.Cond.methodLink "GrownPostModel" (435 : Nat) ({ cls := "GrownPostModel", name := "bringsBack", desc := "()V" } : Jvm.MethodName)) ∈ zGW := zmem 2142 (by decide +kernel) (by decide +kernel)
theorem q2144 : (Jvm.Cond.instanceMethod ({ cls := "GrownPostModel", name := "bringsBack", desc := "()V" } : Jvm.MethodName)) ∈ zGW := zmem 2144 (by decide +kernel) (by decide +kernel)
theorem q2154 : (Jvm.Cond.methodLink "GrownPostModel" (438 : Nat) ({ cls := "GrownPostModel", name := "cameIn", desc := "(II)I" } : Jvm.MethodName)) ∈ zGW := zmem 2154 (by decide +kernel) (by decide +kernel)
theorem q2156 : (Jvm.Cond.instanceMethod ({ cls := "GrownPostModel", name := "cameIn", desc := "(II)I" } : Jvm.MethodName)) ∈ zGW := zmem 2156 (by decide +kernel) (by decide +kernel)
theorem q2166 : (Jvm.Cond.methodLink "GrownPostModel" (441 : Nat) ({ cls := "GrownPostModel", name := "those", desc := "(I)I" } : Jvm.MethodName)) ∈ zGW := zmem 2166 (by decide +kernel) (by decide +kernel)
theorem q2168 : (Jvm.Cond.instanceMethod ({ cls := "GrownPostModel", name := "those", desc := "(I)I" } : Jvm.MethodName)) ∈ zGW := zmem 2168 (by decide +kernel) (by decide +kernel)
theorem q2191 : (Jvm.Cond.fieldLink "java/lang/String" (9 : Nat) "java/lang/String" "value" "[B") ∈ zGW := zmem 2191 (by decide +kernel) (by decide +kernel)
theorem q2192 : (Jvm.Cond.fieldLink "java/lang/String" (15 : Nat) "java/lang/String" "coder" "B") ∈ zGW := zmem 2192 (by decide +kernel) (by decide +kernel)
theorem ci_m16 : Int32.ofInt (-16) = (-16) := by decide
theorem ci_m8 : Int32.ofInt (-8) = (-8) := by decide
theorem ci_m4 : Int32.ofInt (-4) = (-4) := by decide
theorem ci_m2 : Int32.ofInt (-2) = (-2) := by decide
theorem ci_m1 : Int32.ofInt (-1) = (-1) := by decide
theorem ci_0 : Int32.ofInt 0 = 0 := by decide
theorem ci_1 : Int32.ofInt 1 = 1 := by decide
theorem ci_2 : Int32.ofInt 2 = 2 := by decide
theorem ci_3 : Int32.ofInt 3 = 3 := by decide
theorem ci_4 : Int32.ofInt 4 = 4 := by decide
theorem ci_5 : Int32.ofInt 5 = 5 := by decide
theorem cb_6 : (Int8.ofInt 6).toInt32 = 6 := by decide
theorem cb_7 : (Int8.ofInt 7).toInt32 = 7 := by decide
theorem cb_8 : (Int8.ofInt 8).toInt32 = 8 := by decide
theorem cb_9 : (Int8.ofInt 9).toInt32 = 9 := by decide
theorem cb_10 : (Int8.ofInt 10).toInt32 = 10 := by decide
theorem cb_11 : (Int8.ofInt 11).toInt32 = 11 := by decide
theorem cb_12 : (Int8.ofInt 12).toInt32 = 12 := by decide
theorem cb_13 : (Int8.ofInt 13).toInt32 = 13 := by decide
theorem cb_14 : (Int8.ofInt 14).toInt32 = 14 := by decide
theorem cb_16 : (Int8.ofInt 16).toInt32 = 16 := by decide
theorem cb_20 : (Int8.ofInt 20).toInt32 = 20 := by decide
theorem cb_23 : (Int8.ofInt 23).toInt32 = 23 := by decide
theorem cb_24 : (Int8.ofInt 24).toInt32 = 24 := by decide
theorem cb_25 : (Int8.ofInt 25).toInt32 = 25 := by decide
theorem cb_29 : (Int8.ofInt 29).toInt32 = 29 := by decide
theorem cb_31 : (Int8.ofInt 31).toInt32 = 31 := by decide
theorem cb_32 : (Int8.ofInt 32).toInt32 = 32 := by decide
theorem cb_36 : (Int8.ofInt 36).toInt32 = 36 := by decide
theorem cb_40 : (Int8.ofInt 40).toInt32 = 40 := by decide
theorem cb_41 : (Int8.ofInt 41).toInt32 = 41 := by decide
theorem cb_43 : (Int8.ofInt 43).toInt32 = 43 := by decide
theorem cb_48 : (Int8.ofInt 48).toInt32 = 48 := by decide
theorem cb_53 : (Int8.ofInt 53).toInt32 = 53 := by decide
theorem cb_57 : (Int8.ofInt 57).toInt32 = 57 := by decide
theorem cb_59 : (Int8.ofInt 59).toInt32 = 59 := by decide
theorem cb_60 : (Int8.ofInt 60).toInt32 = 60 := by decide
theorem cb_62 : (Int8.ofInt 62).toInt32 = 62 := by decide
theorem cb_63 : (Int8.ofInt 63).toInt32 = 63 := by decide
theorem cb_97 : (Int8.ofInt 97).toInt32 = 97 := by decide
theorem cb_99 : (Int8.ofInt 99).toInt32 = 99 := by decide
theorem cb_100 : (Int8.ofInt 100).toInt32 = 100 := by decide
theorem cb_108 : (Int8.ofInt 108).toInt32 = 108 := by decide
theorem cb_122 : (Int8.ofInt 122).toInt32 = 122 := by decide
theorem cs_156 : (Int16.ofInt 156).toInt32 = 156 := by decide
theorem cs_192 : (Int16.ofInt 192).toInt32 = 192 := by decide
theorem cs_255 : (Int16.ofInt 255).toInt32 = 255 := by decide
theorem cs_256 : (Int16.ofInt 256).toInt32 = 256 := by decide
theorem cs_400 : (Int16.ofInt 400).toInt32 = 400 := by decide
theorem cs_460 : (Int16.ofInt 460).toInt32 = 460 := by decide
theorem cs_461 : (Int16.ofInt 461).toInt32 = 461 := by decide
theorem cs_509 : (Int16.ofInt 509).toInt32 = 509 := by decide
theorem cs_849 : (Int16.ofInt 849).toInt32 = 849 := by decide
theorem cs_999 : (Int16.ofInt 999).toInt32 = 999 := by decide
theorem cs_1000 : (Int16.ofInt 1000).toInt32 = 1000 := by decide
theorem cs_1001 : (Int16.ofInt 1001).toInt32 = 1001 := by decide
theorem cs_1002 : (Int16.ofInt 1002).toInt32 = 1002 := by decide
theorem cs_1003 : (Int16.ofInt 1003).toInt32 = 1003 := by decide
theorem cs_1007 : (Int16.ofInt 1007).toInt32 = 1007 := by decide
theorem cs_1008 : (Int16.ofInt 1008).toInt32 = 1008 := by decide
theorem cs_1009 : (Int16.ofInt 1009).toInt32 = 1009 := by decide
theorem cs_1010 : (Int16.ofInt 1010).toInt32 = 1010 := by decide
theorem cs_1011 : (Int16.ofInt 1011).toInt32 = 1011 := by decide
theorem cs_1012 : (Int16.ofInt 1012).toInt32 = 1012 := by decide
theorem cs_1014 : (Int16.ofInt 1014).toInt32 = 1014 := by decide
theorem cs_1019 : (Int16.ofInt 1019).toInt32 = 1019 := by decide
theorem cs_1020 : (Int16.ofInt 1020).toInt32 = 1020 := by decide
theorem cs_1021 : (Int16.ofInt 1021).toInt32 = 1021 := by decide
theorem cs_1100 : (Int16.ofInt 1100).toInt32 = 1100 := by decide
theorem cs_1140 : (Int16.ofInt 1140).toInt32 = 1140 := by decide
theorem cs_1141 : (Int16.ofInt 1141).toInt32 = 1141 := by decide
theorem cs_1143 : (Int16.ofInt 1143).toInt32 = 1143 := by decide
theorem cs_1159 : (Int16.ofInt 1159).toInt32 = 1159 := by decide
theorem cs_1160 : (Int16.ofInt 1160).toInt32 = 1160 := by decide
theorem cs_1162 : (Int16.ofInt 1162).toInt32 = 1162 := by decide
theorem cs_1309 : (Int16.ofInt 1309).toInt32 = 1309 := by decide
theorem cs_1310 : (Int16.ofInt 1310).toInt32 = 1310 := by decide
theorem cs_1358 : (Int16.ofInt 1358).toInt32 = 1358 := by decide
theorem cs_5060 : (Int16.ofInt 5060).toInt32 = 5060 := by decide
theorem cs_9999 : (Int16.ofInt 9999).toInt32 = 9999 := by decide
theorem cs_12345 : (Int16.ofInt 12345).toInt32 = 12345 := by decide
theorem cs_32767 : (Int16.ofInt 32767).toInt32 = 32767 := by decide
theorem zc_1005 (E : zE) (a : Nat) (f : Nat → Int32) : zcell E 1005 a f = .inl (E.2.2.1 0, 5, .inl f) := rfl
theorem zc_1008 (E : zE) (a : Nat) (f : Nat → Int32) : zcell E 1008 a f = .inl (E.2.2.1 0, 8, .inl f) := rfl
theorem zc_1012 (E : zE) (a : Nat) (f : Nat → Int32) : zcell E 1012 a f = .inl (E.2.2.1 0, 12, .inl f) := rfl
theorem zc_1024 (E : zE) (a : Nat) (f : Nat → Int32) : zcell E 1024 a f = .inl (E.2.2.1 0, 24, .inl f) := rfl
theorem zc_1041 (E : zE) (a : Nat) (f : Nat → Int32) : zcell E 1041 a f = .inl (E.2.2.1 0, 41, .inl f) := rfl
theorem zc_1256 (E : zE) (a : Nat) (f : Nat → Int32) : zcell E 1256 a f = .inl (E.2.2.1 0, 256, .inl f) := rfl
theorem zc_1400 (E : zE) (a : Nat) (f : Nat → Int32) : zcell E 1400 a f = .inl (E.2.2.1 0, 400, .inl f) := rfl
theorem zc_1401 (E : zE) (a : Nat) (f : Nat → Int32) : zcell E 1401 a f = .inl (E.2.2.1 0, 401, .inl f) := rfl
theorem zc_1460 (E : zE) (a : Nat) (f : Nat → Int32) : zcell E 1460 a f = .inl (E.2.2.1 0, 460, .inl f) := rfl
theorem zc_2309 (E : zE) (a : Nat) (f : Nat → Int32) : zcell E 2309 a f = .inl (E.2.2.1 0, 1309, .inl f) := rfl
theorem zc_3158 (E : zE) (a : Nat) (f : Nat → Int32) : zcell E 3158 a f = .inl (E.2.2.1 0, 2158, .inl f) := rfl
theorem zc_6520 (E : zE) (a : Nat) (f : Nat → Int32) : zcell E 6520 a f = .inl (E.2.2.1 0, 5520, .inl f) := rfl
theorem zq_0 : zK 0 = 10 := by decide +kernel
theorem zq_1 : zK 1 = 1400 := by decide +kernel
theorem zq_2 : zK 2 = 9 := by decide +kernel
theorem zq_3 : zK 3 = 0 := by decide +kernel
theorem zq_4 : zK 4 = 22 := by decide +kernel
theorem zq_29 : zK 29 = 1 := by decide +kernel
theorem zq_39 : zK 39 = 9 := by decide +kernel
theorem zq_76 : zK 76 = 4 := by decide +kernel
theorem zq_77 : zK 77 = 23 := by decide +kernel
theorem zq_390 : zK 390 = 5 := by decide +kernel
theorem zq_391 : zK 391 = 8 := by decide +kernel
theorem zq_396 : zK 396 = 9 := by decide +kernel
theorem zq_397 : zK 397 = 0 := by decide +kernel
theorem zq_398 : zK 398 = 22 := by decide +kernel
theorem zq_433 : zK 433 = 2 := by decide +kernel
theorem zq_434 : zK 434 = 8 := by decide +kernel
theorem zq_439 : zK 439 = 1 := by decide +kernel
theorem zq_446 : zK 446 = 7 := by decide +kernel
theorem zq_447 : zK 447 = 3 := by decide +kernel
theorem zq_450 : zK 450 = 7 := by decide +kernel
theorem zq_451 : zK 451 = 3 := by decide +kernel
theorem zq_454 : zK 454 = 0 := by decide +kernel
theorem zq_455 : zK 455 = 22 := by decide +kernel
theorem zq_480 : zK 480 = 6 := by decide +kernel
theorem zq_481 : zK 481 = 1256 := by decide +kernel
theorem zq_482 : zK 482 = 1256 := by decide +kernel
theorem zq_483 : zK 483 = 24 := by decide +kernel
theorem zq_492 : zK 492 = 1012 := by decide +kernel
theorem zq_493 : zK 493 = 11 := by decide +kernel
theorem zq_494 : zK 494 = 3158 := by decide +kernel
theorem zq_495 : zK 495 = 2309 := by decide +kernel
theorem zq_496 : zK 496 = 2309 := by decide +kernel
theorem zq_497 : zK 497 = 1460 := by decide +kernel
theorem zq_498 : zK 498 = 6520 := by decide +kernel
theorem zq_499 : zK 499 = 20 := by decide +kernel
theorem zq_500 : zK 500 = 1005 := by decide +kernel
theorem zq_501 : zK 501 = 1400 := by decide +kernel
theorem zq_502 : zK 502 = 1024 := by decide +kernel
theorem zq_503 : zK 503 = 1024 := by decide +kernel
theorem zq_504 : zK 504 = 1041 := by decide +kernel
theorem zq_505 : zK 505 = 1008 := by decide +kernel
theorem zq_506 : zK 506 = 1256 := by decide +kernel
theorem zq_507 : zK 507 = 1012 := by decide +kernel
theorem ok_X11_ahead : zOK yX11_ahead cX11_ahead 5 (some .int) 3 := ⟨q1194, q115, by decide, by decide, by decide +kernel⟩
theorem ok_X11_areKinds : zOK yX11_areKinds cX11_areKinds 3 (some .boolean) 1 := ⟨q1078, q115, by decide, by decide, by decide +kernel⟩
theorem ok_X11_astray : zOK yX11_astray cX11_astray 2 (some .int) 1 := ⟨q1270, q115, by decide, by decide, by decide +kernel⟩
theorem ok_X11_author : zOK yX11_author cX11_author 7 (some .int) 2 := ⟨q1426, q115, by decide, by decide, by decide +kernel⟩
theorem ok_X11_back : zOK yX11_back cX11_back 1 (some .boolean) 0 := ⟨q626, q115, by decide, by decide, by decide +kernel⟩
theorem ok_X11_bound : zOK yX11_bound cX11_bound 4 (some .int) 2 := ⟨q1325, q115, by decide, by decide, by decide +kernel⟩
theorem ok_X11_burn : zOK yX11_burn cX11_burn 2 (some .int) 1 := ⟨q1159, q115, by decide, by decide, by decide +kernel⟩
theorem ok_X11_common : zOK yX11_common cX11_common 8 (some .int) 2 := ⟨q1419, q115, by decide, by decide, by decide +kernel⟩
theorem ok_X11_copy : zOK yX11_copy cX11_copy 4 (some .int) 1 := ⟨q1104, q115, by decide, by decide, by decide +kernel⟩
theorem ok_X11_count : zOK yX11_count cX11_count 2 (some .int) 1 := ⟨q634, q115, by decide, by decide, by decide +kernel⟩
theorem ok_X11_cut : zOK yX11_cut cX11_cut 5 (some .int) 2 := ⟨q1125, q115, by decide, by decide, by decide +kernel⟩
theorem ok_X11_cuts : zOK yX11_cuts cX11_cuts 7 (some .int) 4 := ⟨q1256, q115, by decide, by decide, by decide +kernel⟩
theorem ok_X11_drawer : zOK yX11_drawer cX11_drawer 6 (some .int) 0 := ⟨q501, q115, by decide, by decide, by decide +kernel⟩
theorem ok_X11_echo : zOK yX11_echo cX11_echo 6 (some .int) 1 := ⟨q1407, q115, by decide, by decide, by decide +kernel⟩
theorem ok_X11_end : zOK yX11_end cX11_end 2 (some .boolean) 1 := ⟨q493, q115, by decide, by decide, by decide +kernel⟩
theorem ok_X11_endReading : zOK yX11_endReading cX11_endReading 2 none 1 := ⟨q862, q115, by decide, by decide, by decide +kernel⟩
theorem ok_X11_fault : zOK yX11_fault cX11_fault 1 (some .int) 0 := ⟨q497, q115, by decide, by decide, by decide +kernel⟩
theorem ok_X11_feed : zOK yX11_feed cX11_feed 6 (some .int) 5 := ⟨q485, q115, by decide, by decide, by decide +kernel⟩
theorem ok_X11_fillLastsAhead : zOK yX11_fillLastsAhead cX11_fillLastsAhead 3 none 0 := ⟨q505, q115, by decide, by decide, by decide +kernel⟩
theorem ok_X11_firstBinding : zOK yX11_firstBinding cX11_firstBinding 4 (some .int) 2 := ⟨q1344, q115, by decide, by decide, by decide +kernel⟩
theorem ok_X11_firstMeeting : zOK yX11_firstMeeting cX11_firstMeeting 4 (some .int) 2 := ⟨q570, q115, by decide, by decide, by decide +kernel⟩
theorem ok_X11_forks : zOK yX11_forks cX11_forks 6 (some .int) 2 := ⟨q1384, q115, by decide, by decide, by decide +kernel⟩
theorem ok_X11_guess : zOK yX11_guess cX11_guess 5 (some .int) 1 := ⟨q1358, q115, by decide, by decide, by decide +kernel⟩
theorem ok_X11_has : zOK yX11_has cX11_has 2 (some .int) 1 := ⟨q1399, q115, by decide, by decide, by decide +kernel⟩
theorem ok_X11_heat : zOK yX11_heat cX11_heat 5 (some .boolean) 2 := ⟨q1152, q115, by decide, by decide, by decide +kernel⟩
theorem ok_X11_image : zOK yX11_image cX11_image 1 none 0 := ⟨q611, q115, by decide, by decide, by decide +kernel⟩
theorem ok_X11_isNoDigit : zOK yX11_isNoDigit cX11_isNoDigit 1 (some .boolean) 1 := ⟨q1081, q115, by decide, by decide, by decide +kernel⟩
theorem ok_X11_latest : zOK yX11_latest cX11_latest 6 (some .int) 1 := ⟨q586, q115, by decide, by decide, by decide +kernel⟩
theorem ok_X11_law : zOK yX11_law cX11_law 2 (some .int) 0 := ⟨q955, q115, by decide, by decide, by decide +kernel⟩
theorem ok_X11_letter : zOK yX11_letter cX11_letter 4 (some .int) 2 := ⟨q973, q115, by decide, by decide, by decide +kernel⟩
theorem ok_X11_line : zOK yX11_line cX11_line 5 (some .int) 3 := ⟨q1021, q115, by decide, by decide, by decide +kernel⟩
theorem ok_X11_mailOf : zOK yX11_mailOf cX11_mailOf 2 (some (.object "GrownPost$Mail")) 1 := ⟨q977, q115, by decide, by decide, by decide +kernel⟩
theorem ok_X11_meet : zOK yX11_meet cX11_meet 8 (some .int) 3 := ⟨q1300, q115, by decide, by decide, by decide +kernel⟩
theorem ok_X11_needAhead : zOK yX11_needAhead cX11_needAhead 2 none 2 := ⟨q1197, q115, by decide, by decide, by decide +kernel⟩
theorem ok_X11_needDigit : zOK yX11_needDigit cX11_needDigit 1 none 1 := ⟨q1243, q115, by decide, by decide, by decide +kernel⟩
theorem ok_X11_needKind : zOK yX11_needKind cX11_needKind 1 none 1 := ⟨q1040, q115, by decide, by decide, by decide +kernel⟩
theorem ok_X11_needLetter : zOK yX11_needLetter cX11_needLetter 2 none 1 := ⟨q981, q115, by decide, by decide, by decide +kernel⟩
theorem ok_X11_needLine : zOK yX11_needLine cX11_needLine 2 none 2 := ⟨q1024, q115, by decide, by decide, by decide +kernel⟩
theorem ok_X11_needPromise : zOK yX11_needPromise cX11_needPromise 2 none 1 := ⟨q1053, q115, by decide, by decide, by decide +kernel⟩
theorem ok_X11_needTwo : zOK yX11_needTwo cX11_needTwo 2 none 2 := ⟨q1303, q115, by decide, by decide, by decide +kernel⟩
theorem ok_X11_open : zOK yX11_open cX11_open 5 (some .boolean) 2 := ⟨q1097, q115, by decide, by decide, by decide +kernel⟩
theorem ok_X11_out : zOK yX11_out cX11_out 8 (some .int) 4 := ⟨q1263, q115, by decide, by decide, by decide +kernel⟩
theorem ok_X11_part : zOK yX11_part cX11_part 5 (some .int) 2 := ⟨q1318, q115, by decide, by decide, by decide +kernel⟩
theorem ok_X11_post : zOK yX11_post cX11_post 2 (some .int) 0 := ⟨q652, q115, by decide, by decide, by decide +kernel⟩
theorem ok_X11_postage : zOK yX11_postage cX11_postage 6 (some .int) 3 := ⟨q1365, q115, by decide, by decide, by decide +kernel⟩
theorem ok_X11_promise : zOK yX11_promise cX11_promise 3 (some .int) 2 := ⟨q1049, q115, by decide, by decide, by decide +kernel⟩
theorem ok_X11_prune : zOK yX11_prune cX11_prune 4 (some .int) 2 := ⟨q1112, q115, by decide, by decide, by decide +kernel⟩
theorem ok_X11_putBytes : zOK yX11_putBytes cX11_putBytes 3 none 1 := ⟨q489, q115, by decide, by decide, by decide +kernel⟩
theorem ok_X11_ripe : zOK yX11_ripe cX11_ripe 8 (some .int) 2 := ⟨q1391, q115, by decide, by decide, by decide +kernel⟩
theorem ok_X11_says : zOK yX11_says cX11_says 7 (some .int) 3 := ⟨q1211, q115, by decide, by decide, by decide +kernel⟩
theorem ok_X11_season : zOK yX11_season cX11_season 2 (some .int) 1 := ⟨q1065, q115, by decide, by decide, by decide +kernel⟩
theorem ok_X11_seasonOf : zOK yX11_seasonOf cX11_seasonOf 1 (some .int) 1 := ⟨q544, q115, by decide, by decide, by decide +kernel⟩
theorem ok_X11_seed : zOK yX11_seed cX11_seed 3 (some .int) 1 := ⟨q594, q115, by decide, by decide, by decide +kernel⟩
theorem ok_X11_send : zOK yX11_send cX11_send 8 (some .int) 5 := ⟨q1240, q115, by decide, by decide, by decide +kernel⟩
theorem ok_X11_senseless : zOK yX11_senseless cX11_senseless 4 (some .int) 1 := ⟨q1289, q115, by decide, by decide, by decide +kernel⟩
theorem ok_X11_shelves : zOK yX11_shelves cX11_shelves 5 (some .int) 3 := ⟨q1433, q115, by decide, by decide, by decide +kernel⟩
theorem ok_X11_soonest : zOK yX11_soonest cX11_soonest 6 (some .int) 1 := ⟨q1351, q115, by decide, by decide, by decide +kernel⟩
theorem ok_X11_span : zOK yX11_span cX11_span 7 (some .int) 2 := ⟨q1482, q115, by decide, by decide, by decide +kernel⟩
theorem ok_X11_spies : zOK yX11_spies cX11_spies 4 (some .int) 1 := ⟨q574, q115, by decide, by decide, by decide +kernel⟩
theorem ok_X11_stays : zOK yX11_stays cX11_stays 6 (some .int) 2 := ⟨q1233, q115, by decide, by decide, by decide +kernel⟩
theorem ok_X11_stops : zOK yX11_stops cX11_stops 4 (some .int) 1 := ⟨q1226, q115, by decide, by decide, by decide +kernel⟩
theorem ok_X11_tallyTempers : zOK yX11_tallyTempers cX11_tallyTempers 5 none 2 := ⟨q1463, q115, by decide, by decide, by decide +kernel⟩
theorem ok_X11_tempers : zOK yX11_tempers cX11_tempers 7 (some .int) 3 := ⟨q1459, q115, by decide, by decide, by decide +kernel⟩
theorem ok_X11_trial : zOK yX11_trial cX11_trial 3 (some .int) 2 := ⟨q1470, q115, by decide, by decide, by decide +kernel⟩
theorem ok_X11_tryWeeks : zOK yX11_tryWeeks cX11_tryWeeks 4 none 2 := ⟨q1474, q115, by decide, by decide, by decide +kernel⟩
theorem ok_X11_undo : zOK yX11_undo cX11_undo 1 (some .boolean) 0 := ⟨q598, q115, by decide, by decide, by decide +kernel⟩
theorem ok_X11_weeks : zOK yX11_weeks cX11_weeks 4 (some .int) 1 := ⟨q1170, q115, by decide, by decide, by decide +kernel⟩
theorem ok_X11_when : zOK yX11_when cX11_when 4 (some .int) 2 := ⟨q1340, q115, by decide, by decide, by decide +kernel⟩
theorem ok_X11_words : zOK yX11_words cX11_words 2 (some .int) 1 := ⟨q1037, q115, by decide, by decide, by decide +kernel⟩
theorem ok_X11_write : zOK yX11_write cX11_write 6 (some .int) 2 := ⟨q1074, q115, by decide, by decide, by decide +kernel⟩
theorem ok_X11_written : zOK yX11_written cX11_written 4 (some .int) 1 := ⟨q1282, q115, by decide, by decide, by decide +kernel⟩
theorem ok_X0_areSealed : zOK yX0_areSealed cX0_areSealed 3 (some .boolean) 2 := ⟨q562, q117, by decide, by decide, by decide +kernel⟩
theorem ok_X0_become : zOK yX0_become cX0_become 3 none 1 := ⟨q606, q117, by decide, by decide, by decide +kernel⟩
theorem ok_X0_draw : zOK yX0_draw cX0_draw 1 (some .int) 0 := ⟨q1184, q117, by decide, by decide, by decide +kernel⟩
theorem ok_X0_drop : zOK yX0_drop cX0_drop 3 none 1 := ⟨q1163, q117, by decide, by decide, by decide +kernel⟩
theorem ok_X0_growOne : zOK yX0_growOne cX0_growOne 5 (some .int) 3 := ⟨q1179, q117, by decide, by decide, by decide +kernel⟩
theorem ok_X0_hotSet : zOK yX0_hotSet cX0_hotSet 3 (some .int) 0 := ⟨q643, q117, by decide, by decide, by decide +kernel⟩
theorem ok_X0_linesInAll : zOK yX0_linesInAll cX0_linesInAll 3 (some .int) 0 := ⟨q638, q117, by decide, by decide, by decide +kernel⟩
theorem ok_X0_openSet : zOK yX0_openSet cX0_openSet 3 (some .int) 0 := ⟨q566, q117, by decide, by decide, by decide +kernel⟩
theorem ok_X0_passWeek : zOK yX0_passWeek cX0_passWeek 5 (some .int) 2 := ⟨q1175, q117, by decide, by decide, by decide +kernel⟩
theorem ok_X1_addCode : zOK yX1_addCode cX1_addCode 2 none 1 := ⟨q796, q119, by decide, by decide, by decide +kernel⟩
theorem ok_X1_addLine : zOK yX1_addLine cX1_addLine 3 none 2 := ⟨q805, q119, by decide, by decide, by decide +kernel⟩
theorem ok_X1_astrayIn : zOK yX1_astrayIn cX1_astrayIn 4 (some .int) 1 := ⟨q1274, q119, by decide, by decide, by decide +kernel⟩
theorem ok_X1_become : zOK yX1_become cX1_become 2 none 1 := ⟨q620, q119, by decide, by decide, by decide +kernel⟩
theorem ok_X1_clear : zOK yX1_clear cX1_clear 1 none 0 := ⟨q959, q119, by decide, by decide, by decide +kernel⟩
theorem ok_X1_follows : zOK yX1_follows cX1_follows 6 (some .int) 3 := ⟨q536, q119, by decide, by decide, by decide +kernel⟩
theorem ok_X1_growth : zOK yX1_growth cX1_growth 3 (some .int) 2 := ⟨q532, q119, by decide, by decide, by decide +kernel⟩
theorem ok_X1_isMet : zOK yX1_isMet cX1_isMet 6 (some .boolean) 1 := ⟨q548, q119, by decide, by decide, by decide +kernel⟩
theorem ok_X1_join : zOK yX1_join cX1_join 3 (some .int) 3 := ⟨q551, q119, by decide, by decide, by decide +kernel⟩
theorem ok_X1_leads : zOK yX1_leads cX1_leads 4 (some .boolean) 2 := ⟨q1293, q119, by decide, by decide, by decide +kernel⟩
theorem ok_X1_learnFacts : zOK yX1_learnFacts cX1_learnFacts 5 none 3 := ⟨q541, q119, by decide, by decide, by decide +kernel⟩
theorem ok_X2_readAll : zOK yX2_readAll cX2_readAll 3 (some .boolean) 1 := ⟨q784, q124, by decide, by decide, by decide +kernel⟩
theorem ok_X2_readAtom : zOK yX2_readAtom cX2_readAtom 4 (some .boolean) 1 := ⟨q788, q124, by decide, by decide, by decide +kernel⟩
theorem ok_X2_readEither : zOK yX2_readEither cX2_readEither 3 (some .boolean) 1 := ⟨q780, q124, by decide, by decide, by decide +kernel⟩
theorem ok_X2_readInner : zOK yX2_readInner cX2_readInner 3 (some .boolean) 2 := ⟨q792, q124, by decide, by decide, by decide +kernel⟩
theorem ok_X2_readLine : zOK yX2_readLine cX2_readLine 3 (some .boolean) 0 := ⟨q750, q124, by decide, by decide, by decide +kernel⟩
theorem ok_X2_readSum : zOK yX2_readSum cX2_readSum 3 (some .boolean) 0 := ⟨q801, q124, by decide, by decide, by decide +kernel⟩
theorem ok_X3_add : zOK yX3_add cX3_add 3 none 2 := ⟨q555, q118, by decide, by decide, by decide +kernel⟩
theorem ok_X3_alikeFrom : zOK yX3_alikeFrom cX3_alikeFrom 6 (some .int) 3 := ⟨q1411, q118, by decide, by decide, by decide +kernel⟩
theorem ok_X3_become : zOK yX3_become cX3_become 2 none 1 := ⟨q513, q118, by decide, by decide, by decide +kernel⟩
theorem ok_X3_begin : zOK yX3_begin cX3_begin 3 none 2 := ⟨q825, q118, by decide, by decide, by decide +kernel⟩
theorem ok_X3_binds : zOK yX3_binds cX3_binds 5 (some .boolean) 2 := ⟨q1333, q118, by decide, by decide, by decide +kernel⟩
theorem ok_X3_drop : zOK yX3_drop cX3_drop 3 none 1 := ⟨q1145, q118, by decide, by decide, by decide +kernel⟩
theorem ok_X3_firstUnlike : zOK yX3_firstUnlike cX3_firstUnlike 4 (some .int) 1 := ⟨q1308, q118, by decide, by decide, by decide +kernel⟩
theorem ok_X3_holds : zOK yX3_holds cX3_holds 2 (some .boolean) 1 := ⟨q1215, q118, by decide, by decide, by decide +kernel⟩
theorem ok_X3_kindAt : zOK yX3_kindAt cX3_kindAt 2 (some .int) 1 := ⟨q524, q118, by decide, by decide, by decide +kernel⟩
theorem ok_X3_kindSet : zOK yX3_kindSet cX3_kindSet 3 (some .int) 0 := ⟨q1219, q118, by decide, by decide, by decide +kernel⟩
theorem ok_X3_lastKind : zOK yX3_lastKind cX3_lastKind 1 (some .int) 0 := ⟨q520, q118, by decide, by decide, by decide +kernel⟩
theorem ok_X3_linesOf : zOK yX3_linesOf cX3_linesOf 4 (some .int) 1 := ⟨q590, q118, by decide, by decide, by decide +kernel⟩
theorem ok_X3_shorten : zOK yX3_shorten cX3_shorten 2 none 1 := ⟨q1117, q118, by decide, by decide, by decide +kernel⟩
theorem ok_X3_weekAt : zOK yX3_weekAt cX3_weekAt 2 (some .int) 1 := ⟨q1029, q118, by decide, by decide, by decide +kernel⟩
theorem ok_X4_forget : zOK yX4_forget cX4_forget 1 none 0 := ⟨q630, q120, by decide, by decide, by decide +kernel⟩
theorem ok_X4_remember : zOK yX4_remember cX4_remember 2 none 1 := ⟨q1087, q120, by decide, by decide, by decide +kernel⟩
theorem ok_X4_takeBack : zOK yX4_takeBack cX4_takeBack 2 (some .boolean) 1 := ⟨q602, q120, by decide, by decide, by decide +kernel⟩
theorem ok_X5_readLetter : zOK yX5_readLetter cX5_readLetter 6 (some .boolean) 0 := ⟨q813, q122, by decide, by decide, by decide +kernel⟩
theorem ok_X5_readLine : zOK yX5_readLine cX5_readLine 1 (some .boolean) 0 := ⟨q808, q122, by decide, by decide, by decide +kernel⟩
theorem ok_X5_readPromise : zOK yX5_readPromise cX5_readPromise 3 (some .boolean) 0 := ⟨q840, q122, by decide, by decide, by decide +kernel⟩
theorem ok_X5_readSlip : zOK yX5_readSlip cX5_readSlip 2 (some .boolean) 0 := ⟨q848, q122, by decide, by decide, by decide +kernel⟩
theorem ok_X5_readState : zOK yX5_readState cX5_readState 3 (some .boolean) 1 := ⟨q852, q122, by decide, by decide, by decide +kernel⟩
theorem ok_X5_readWeek : zOK yX5_readWeek cX5_readWeek 2 (some .boolean) 0 := ⟨q856, q122, by decide, by decide, by decide +kernel⟩
theorem ok_X5_readWords : zOK yX5_readWords cX5_readWords 3 (some .boolean) 0 := ⟨q831, q122, by decide, by decide, by decide +kernel⟩
theorem ok_X6_add : zOK yX6_add cX6_add 4 none 1 := ⟨q1442, q126, by decide, by decide, by decide +kernel⟩
theorem ok_X6_clear : zOK yX6_clear cX6_clear 1 none 0 := ⟨q1438, q126, by decide, by decide, by decide +kernel⟩
theorem ok_X6_fewestShelves : zOK yX6_fewestShelves cX6_fewestShelves 7 (some .int) 1 := ⟨q1452, q126, by decide, by decide, by decide +kernel⟩
theorem ok_X6_mostOnOne : zOK yX6_mostOnOne cX6_mostOnOne 4 (some .int) 1 := ⟨q1446, q126, by decide, by decide, by decide +kernel⟩
theorem ok_X7_go : zOK yX7_go cX7_go 4 none 2 := ⟨q1203, q125, by decide, by decide, by decide +kernel⟩
theorem ok_X7_goWeek : zOK yX7_goWeek cX7_goWeek 5 none 1 := ⟨q528, q125, by decide, by decide, by decide +kernel⟩
theorem ok_X7_look : zOK yX7_look cX7_look 3 none 2 := ⟨q509, q125, by decide, by decide, by decide +kernel⟩
theorem ok_X7_lookAtRow : zOK yX7_lookAtRow cX7_lookAtRow 5 none 4 := ⟨q1248, q125, by decide, by decide, by decide +kernel⟩
theorem ok_X8_readText : zOK yX8_readText cX8_readText 5 (some .boolean) 3 := ⟨q658, q121, by decide, by decide, by decide +kernel⟩
theorem ok_X9_addToken : zOK yX9_addToken cX9_addToken 3 none 2 := ⟨q675, q123, by decide, by decide, by decide +kernel⟩
theorem ok_X9_code : zOK yX9_code cX9_code 1 (some .int) 0 := ⟨q744, q123, by decide, by decide, by decide +kernel⟩
theorem ok_X9_codeOf : zOK yX9_codeOf cX9_codeOf 4 (some .int) 2 := ⟨q679, q123, by decide, by decide, by decide +kernel⟩
theorem ok_X9_countKinds : zOK yX9_countKinds cX9_countKinds 3 (some .int) 0 := ⟨q758, q123, by decide, by decide, by decide +kernel⟩
theorem ok_X9_endOf : zOK yX9_endOf cX9_endOf 4 (some .int) 1 := ⟨q668, q123, by decide, by decide, by decide +kernel⟩
theorem ok_X9_fail : zOK yX9_fail cX9_fail 1 (some .boolean) 0 := ⟨q766, q123, by decide, by decide, by decide +kernel⟩
theorem ok_X9_isKnown : zOK yX9_isKnown cX9_isKnown 5 (some .boolean) 3 := ⟨q736, q123, by decide, by decide, by decide +kernel⟩
theorem ok_X9_kindIn : zOK yX9_kindIn cX9_kindIn 4 (some .int) 1 := ⟨q762, q123, by decide, by decide, by decide +kernel⟩
theorem ok_X9_numberCode : zOK yX9_numberCode cX9_numberCode 5 (some .int) 2 := ⟨q740, q123, by decide, by decide, by decide +kernel⟩
theorem ok_X9_pass : zOK yX9_pass cX9_pass 2 (some .boolean) 1 := ⟨q774, q123, by decide, by decide, by decide +kernel⟩
theorem ok_X9_scan : zOK yX9_scan cX9_scan 6 none 2 := ⟨q662, q123, by decide, by decide, by decide +kernel⟩
theorem ok_X9_sortOf : zOK yX9_sortOf cX9_sortOf 1 (some .int) 1 := ⟨q671, q123, by decide, by decide, by decide +kernel⟩
theorem ok_X9_step : zOK yX9_step cX9_step 1 none 0 := ⟨q770, q123, by decide, by decide, by decide +kernel⟩
theorem ok_X9_takeKind : zOK yX9_takeKind cX9_takeKind 2 (some .int) 0 := ⟨q754, q123, by decide, by decide, by decide +kernel⟩
theorem ok_X9_takeNumber : zOK yX9_takeNumber cX9_takeNumber 4 (some .int) 2 := ⟨q820, q123, by decide, by decide, by decide +kernel⟩
theorem ok_X9_wordCode : zOK yX9_wordCode cX9_wordCode 6 (some .int) 2 := ⟨q683, q123, by decide, by decide, by decide +kernel⟩
theorem ok_X10_addPromise : zOK yX10_addPromise cX10_addPromise 3 none 2 := ⟨q844, q116, by decide, by decide, by decide +kernel⟩
theorem ok_X10_become : zOK yX10_become cX10_become 2 none 1 := ⟨q615, q116, by decide, by decide, by decide +kernel⟩
theorem ok_X10_binding : zOK yX10_binding cX10_binding 4 (some .int) 1 := ⟨q1329, q116, by decide, by decide, by decide +kernel⟩
theorem ok_X10_postageFor : zOK yX10_postageFor cX10_postageFor 2 (some .int) 1 := ⟨q1369, q116, by decide, by decide, by decide +kernel⟩
theorem ok_X10_promised : zOK yX10_promised cX10_promised 3 (some .int) 2 := ⟨q1058, q116, by decide, by decide, by decide +kernel⟩
theorem ok_X10_setWords : zOK yX10_setWords cX10_setWords 3 none 2 := ⟨q836, q116, by decide, by decide, by decide +kernel⟩
theorem ok_X10_wordsFor : zOK yX10_wordsFor cX10_wordsFor 2 (some .int) 1 := ⟨q582, q116, by decide, by decide, by decide +kernel⟩
theorem ok_X10_wordsIn : zOK yX10_wordsIn cX10_wordsIn 4 (some .int) 1 := ⟨q578, q116, by decide, by decide, by decide +kernel⟩
theorem ok_X12_after : zOK yX12_after cX12_after 4 (some .int) 3 := ⟨q1660, q127, by decide, by decide, by decide +kernel⟩
theorem ok_X12_ahead : zOK yX12_ahead cX12_ahead 4 (some .int) 3 := ⟨q1933, q127, by decide, by decide, by decide +kernel⟩
theorem ok_X12_alikeFrom : zOK yX12_alikeFrom cX12_alikeFrom 6 (some .int) 4 := ⟨q2049, q127, by decide, by decide, by decide +kernel⟩
theorem ok_X12_allLines : zOK yX12_allLines cX12_allLines 3 (some .int) 0 := ⟨q2141, q127, by decide, by decide, by decide +kernel⟩
theorem ok_X12_astray : zOK yX12_astray cX12_astray 2 (some .int) 1 := ⟨q1992, q127, by decide, by decide, by decide +kernel⟩
theorem ok_X12_astrayOf : zOK yX12_astrayOf cX12_astrayOf 5 (some .int) 1 := ⟨q1996, q127, by decide, by decide, by decide +kernel⟩
theorem ok_X12_at : zOK yX12_at cX12_at 2 (some .int) 2 := ⟨q1675, q127, by decide, by decide, by decide +kernel⟩
theorem ok_X12_author : zOK yX12_author cX12_author 7 (some .int) 2 := ⟨q2016, q127, by decide, by decide, by decide +kernel⟩
theorem ok_X12_back : zOK yX12_back cX12_back 2 (some .boolean) 0 := ⟨q1592, q127, by decide, by decide, by decide +kernel⟩
theorem ok_X12_begins : zOK yX12_begins cX12_begins 5 (some .int) 2 := ⟨q1672, q127, by decide, by decide, by decide +kernel⟩
theorem ok_X12_blanks : zOK yX12_blanks cX12_blanks 1 none 0 := ⟨q1624, q127, by decide, by decide, by decide +kernel⟩
theorem ok_X12_bound : zOK yX12_bound cX12_bound 3 (some .int) 2 := ⟨q2062, q127, by decide, by decide, by decide +kernel⟩
theorem ok_X12_boundNow : zOK yX12_boundNow cX12_boundNow 3 (some .int) 0 := ⟨q2066, q127, by decide, by decide, by decide +kernel⟩
theorem ok_X12_bringsBack : zOK yX12_bringsBack cX12_bringsBack 2 none 0 := ⟨q2145, q127, by decide, by decide, by decide +kernel⟩
theorem ok_X12_burn : zOK yX12_burn cX12_burn 3 (some .int) 1 := ⟨q1911, q127, by decide, by decide, by decide +kernel⟩
theorem ok_X12_cameIn : zOK yX12_cameIn cX12_cameIn 5 (some .int) 2 := ⟨q2157, q127, by decide, by decide, by decide +kernel⟩
theorem ok_X12_canGrow : zOK yX12_canGrow cX12_canGrow 1 (some .boolean) 0 := ⟨q1814, q127, by decide, by decide, by decide +kernel⟩
theorem ok_X12_comes : zOK yX12_comes cX12_comes 4 none 2 := ⟨q1682, q127, by decide, by decide, by decide +kernel⟩
theorem ok_X12_common : zOK yX12_common cX12_common 6 (some .int) 2 := ⟨q2045, q127, by decide, by decide, by decide +kernel⟩
theorem ok_X12_copy : zOK yX12_copy cX12_copy 4 (some .int) 1 := ⟨q1899, q127, by decide, by decide, by decide +kernel⟩
theorem ok_X12_count : zOK yX12_count cX12_count 2 (some .int) 1 := ⟨q2165, q127, by decide, by decide, by decide +kernel⟩
theorem ok_X12_cut : zOK yX12_cut cX12_cut 5 (some .int) 2 := ⟨q1907, q127, by decide, by decide, by decide +kernel⟩
theorem ok_X12_cuts : zOK yX12_cuts cX12_cuts 6 (some .int) 4 := ⟨q1984, q127, by decide, by decide, by decide +kernel⟩
theorem ok_X12_draw : zOK yX12_draw cX12_draw 2 (some .int) 1 := ⟨q1927, q127, by decide, by decide, by decide +kernel⟩
theorem ok_X12_drawer : zOK yX12_drawer cX12_drawer 6 (some .int) 0 := ⟨q2041, q127, by decide, by decide, by decide +kernel⟩
theorem ok_X12_echo : zOK yX12_echo cX12_echo 5 (some .int) 1 := ⟨q2054, q127, by decide, by decide, by decide +kernel⟩
theorem ok_X12_emits : zOK yX12_emits cX12_emits 3 none 2 := ⟨q1755, q127, by decide, by decide, by decide +kernel⟩
theorem ok_X12_end : zOK yX12_end cX12_end 2 (some .boolean) 1 := ⟨q1604, q127, by decide, by decide, by decide +kernel⟩
theorem ok_X12_factOf : zOK yX12_factOf cX12_factOf 3 (some .int) 2 := ⟨q1834, q127, by decide, by decide, by decide +kernel⟩
theorem ok_X12_fault : zOK yX12_fault cX12_fault 1 (some .int) 0 := ⟨q1608, q127, by decide, by decide, by decide +kernel⟩
theorem ok_X12_feed : zOK yX12_feed cX12_feed 7 (some .int) 5 := ⟨q1600, q127, by decide, by decide, by decide +kernel⟩
theorem ok_X12_fewestOf : zOK yX12_fewestOf cX12_fewestOf 5 (some .int) 2 := ⟨q2118, q127, by decide, by decide, by decide +kernel⟩
theorem ok_X12_follows : zOK yX12_follows cX12_follows 2 (some .int) 0 := ⟨q1818, q127, by decide, by decide, by decide +kernel⟩
theorem ok_X12_forkOf : zOK yX12_forkOf cX12_forkOf 7 (some .int) 3 := ⟨q2110, q127, by decide, by decide, by decide +kernel⟩
theorem ok_X12_forks : zOK yX12_forks cX12_forks 5 (some .int) 2 := ⟨q2106, q127, by decide, by decide, by decide +kernel⟩
theorem ok_X12_goesFor : zOK yX12_goesFor cX12_goesFor 3 none 1 := ⟨q1944, q127, by decide, by decide, by decide +kernel⟩
theorem ok_X12_goesOn : zOK yX12_goesOn cX12_goesOn 1 none 0 := ⟨q1948, q127, by decide, by decide, by decide +kernel⟩
theorem ok_X12_grows : zOK yX12_grows cX12_grows 3 (some .int) 1 := ⟨q1923, q127, by decide, by decide, by decide +kernel⟩
theorem ok_X12_growsAll : zOK yX12_growsAll cX12_growsAll 3 none 1 := ⟨q2029, q127, by decide, by decide, by decide +kernel⟩
theorem ok_X12_growsOnce : zOK yX12_growsOnce cX12_growsOnce 1 none 0 := ⟨q1952, q127, by decide, by decide, by decide +kernel⟩
theorem ok_X12_guess : zOK yX12_guess cX12_guess 4 (some .int) 1 := ⟨q2094, q127, by decide, by decide, by decide +kernel⟩
theorem ok_X12_has : zOK yX12_has cX12_has 4 (some .int) 1 := ⟨q2058, q127, by decide, by decide, by decide +kernel⟩
theorem ok_X12_hasBit : zOK yX12_hasBit cX12_hasBit 2 (some .boolean) 2 := ⟨q2125, q127, by decide, by decide, by decide +kernel⟩
theorem ok_X12_hasSense : zOK yX12_hasSense cX12_hasSense 5 (some .boolean) 2 := ⟨q2012, q127, by decide, by decide, by decide +kernel⟩
theorem ok_X12_heat : zOK yX12_heat cX12_heat 3 (some .boolean) 2 := ⟨q1895, q127, by decide, by decide, by decide +kernel⟩
theorem ok_X12_holdsKind : zOK yX12_holdsKind cX12_holdsKind 4 (some .boolean) 1 := ⟨q1964, q127, by decide, by decide, by decide +kernel⟩
theorem ok_X12_holdsLine : zOK yX12_holdsLine cX12_holdsLine 9 (some .boolean) 1 := ⟨q1830, q127, by decide, by decide, by decide +kernel⟩
theorem ok_X12_image : zOK yX12_image cX12_image 2 none 0 := ⟨q1588, q127, by decide, by decide, by decide +kernel⟩
theorem ok_X12_in : zOK yX12_in cX12_in 3 (some .boolean) 3 := ⟨q1668, q127, by decide, by decide, by decide +kernel⟩
theorem ok_X12_isAt : zOK yX12_isAt cX12_isAt 3 (some .boolean) 2 := ⟨q1628, q127, by decide, by decide, by decide +kernel⟩
theorem ok_X12_isBound : zOK yX12_isBound cX12_isBound 5 (some .boolean) 1 := ⟨q2070, q127, by decide, by decide, by decide +kernel⟩
theorem ok_X12_isMet : zOK yX12_isMet cX12_isMet 5 (some .boolean) 2 := ⟨q2033, q127, by decide, by decide, by decide +kernel⟩
theorem ok_X12_isOpen : zOK yX12_isOpen cX12_isOpen 2 (some .boolean) 1 := ⟨q1802, q127, by decide, by decide, by decide +kernel⟩
theorem ok_X12_isWord : zOK yX12_isWord cX12_isWord 4 (some .boolean) 1 := ⟨q1645, q127, by decide, by decide, by decide +kernel⟩
theorem ok_X12_keepsAll : zOK yX12_keepsAll cX12_keepsAll 2 none 0 := ⟨q2137, q127, by decide, by decide, by decide +kernel⟩
theorem ok_X12_kindBy : zOK yX12_kindBy cX12_kindBy 1 (some .int) 1 := ⟨q1678, q127, by decide, by decide, by decide +kernel⟩
theorem ok_X12_kindNext : zOK yX12_kindNext cX12_kindNext 1 (some .int) 0 := ⟨q1699, q127, by decide, by decide, by decide +kernel⟩
theorem ok_X12_kindOf : zOK yX12_kindOf cX12_kindOf 3 (some .int) 2 := ⟨q1798, q127, by decide, by decide, by decide +kernel⟩
theorem ok_X12_kindTold : zOK yX12_kindTold cX12_kindTold 1 (some .int) 0 := ⟨q1703, q127, by decide, by decide, by decide +kernel⟩
theorem ok_X12_last : zOK yX12_last cX12_last 1 (some .int) 0 := ⟨q1810, q127, by decide, by decide, by decide +kernel⟩
theorem ok_X12_latest : zOK yX12_latest cX12_latest 4 (some .int) 1 := ⟨q2153, q127, by decide, by decide, by decide +kernel⟩
theorem ok_X12_law : zOK yX12_law cX12_law 3 (some .int) 0 := ⟨q1782, q127, by decide, by decide, by decide +kernel⟩
theorem ok_X12_lawFrom : zOK yX12_lawFrom cX12_lawFrom 2 (some .int) 1 := ⟨q1826, q127, by decide, by decide, by decide +kernel⟩
theorem ok_X12_lawLines : zOK yX12_lawLines cX12_lawLines 1 (some .int) 0 := ⟨q1822, q127, by decide, by decide, by decide +kernel⟩
theorem ok_X12_lawTo : zOK yX12_lawTo cX12_lawTo 2 (some .int) 1 := ⟨q1841, q127, by decide, by decide, by decide +kernel⟩
theorem ok_X12_leads : zOK yX12_leads cX12_leads 6 (some .boolean) 5 := ⟨q1980, q127, by decide, by decide, by decide +kernel⟩
theorem ok_X12_lengthOf : zOK yX12_lengthOf cX12_lengthOf 4 (some .int) 1 := ⟨q2122, q127, by decide, by decide, by decide +kernel⟩
theorem ok_X12_letter : zOK yX12_letter cX12_letter 3 (some .int) 2 := ⟨q1786, q127, by decide, by decide, by decide +kernel⟩
theorem ok_X12_letters : zOK yX12_letters cX12_letters 1 (some .int) 0 := ⟨q1655, q127, by decide, by decide, by decide +kernel⟩
theorem ok_X12_lettersPass : zOK yX12_lettersPass cX12_lettersPass 1 none 0 := ⟨q1636, q127, by decide, by decide, by decide +kernel⟩
theorem ok_X12_line : zOK yX12_line cX12_line 4 (some .int) 3 := ⟨q1845, q127, by decide, by decide, by decide +kernel⟩
theorem ok_X12_lines : zOK yX12_lines cX12_lines 2 (some .int) 1 := ⟨q1686, q127, by decide, by decide, by decide +kernel⟩
theorem ok_X12_looksAhead : zOK yX12_looksAhead cX12_looksAhead 3 none 2 := ⟨q1940, q127, by decide, by decide, by decide +kernel⟩
theorem ok_X12_looksAt : zOK yX12_looksAt cX12_looksAt 3 none 1 := ⟨q1794, q127, by decide, by decide, by decide +kernel⟩
theorem ok_X12_meet : zOK yX12_meet cX12_meet 4 (some .int) 3 := ⟨q2021, q127, by decide, by decide, by decide +kernel⟩
theorem ok_X12_meetOf : zOK yX12_meetOf cX12_meetOf 5 (some .int) 3 := ⟨q2025, q127, by decide, by decide, by decide +kernel⟩
theorem ok_X12_noAhead : zOK yX12_noAhead cX12_noAhead 1 (some .boolean) 1 := ⟨q1936, q127, by decide, by decide, by decide +kernel⟩
theorem ok_X12_noKind : zOK yX12_noKind cX12_noKind 1 (some .boolean) 1 := ⟨q1856, q127, by decide, by decide, by decide +kernel⟩
theorem ok_X12_noLetter : zOK yX12_noLetter cX12_noLetter 2 (some .boolean) 1 := ⟨q1790, q127, by decide, by decide, by decide +kernel⟩
theorem ok_X12_noLine : zOK yX12_noLine cX12_noLine 3 (some .boolean) 2 := ⟨q1849, q127, by decide, by decide, by decide +kernel⟩
theorem ok_X12_noPromise : zOK yX12_noPromise cX12_noPromise 2 (some .boolean) 1 := ⟨q1864, q127, by decide, by decide, by decide +kernel⟩
theorem ok_X12_noSender : zOK yX12_noSender cX12_noSender 2 (some .boolean) 2 := ⟨q1879, q127, by decide, by decide, by decide +kernel⟩
theorem ok_X12_number : zOK yX12_number cX12_number 4 (some .int) 2 := ⟨q1664, q127, by decide, by decide, by decide +kernel⟩
theorem ok_X12_of : zOK yX12_of cX12_of 3 (some .int) 2 := ⟨q1690, q127, by decide, by decide, by decide +kernel⟩
theorem ok_X12_ofPromise : zOK yX12_ofPromise cX12_ofPromise 3 (some .int) 2 := ⟨q1868, q127, by decide, by decide, by decide +kernel⟩
theorem ok_X12_oneWeek : zOK yX12_oneWeek cX12_oneWeek 3 (some .int) 0 := ⟨q1919, q127, by decide, by decide, by decide +kernel⟩
theorem ok_X12_open : zOK yX12_open cX12_open 3 (some .boolean) 2 := ⟨q1887, q127, by decide, by decide, by decide +kernel⟩
theorem ok_X12_out : zOK yX12_out cX12_out 8 (some .int) 4 := ⟨q1988, q127, by decide, by decide, by decide +kernel⟩
theorem ok_X12_part : zOK yX12_part cX12_part 5 (some .int) 2 := ⟨q2037, q127, by decide, by decide, by decide +kernel⟩
theorem ok_X12_passes : zOK yX12_passes cX12_passes 2 (some .boolean) 1 := ⟨q1734, q127, by decide, by decide, by decide +kernel⟩
theorem ok_X12_post : zOK yX12_post cX12_post 3 (some .int) 0 := ⟨q1612, q127, by decide, by decide, by decide +kernel⟩
theorem ok_X12_postage : zOK yX12_postage cX12_postage 4 (some .int) 3 := ⟨q2098, q127, by decide, by decide, by decide +kernel⟩
theorem ok_X12_postageOf : zOK yX12_postageOf cX12_postageOf 3 (some .int) 2 := ⟨q2102, q127, by decide, by decide, by decide +kernel⟩
theorem ok_X12_promise : zOK yX12_promise cX12_promise 3 (some .int) 2 := ⟨q1860, q127, by decide, by decide, by decide +kernel⟩
theorem ok_X12_promises : zOK yX12_promises cX12_promises 1 (some .int) 0 := ⟨q1712, q127, by decide, by decide, by decide +kernel⟩
theorem ok_X12_prune : zOK yX12_prune cX12_prune 3 (some .int) 2 := ⟨q1903, q127, by decide, by decide, by decide +kernel⟩
theorem ok_X12_readAll : zOK yX12_readAll cX12_readAll 3 (some .int) 1 := ⟨q1616, q127, by decide, by decide, by decide +kernel⟩
theorem ok_X12_readAllOf : zOK yX12_readAllOf cX12_readAllOf 1 (some .boolean) 0 := ⟨q1742, q127, by decide, by decide, by decide +kernel⟩
theorem ok_X12_readAtom : zOK yX12_readAtom cX12_readAtom 2 (some .boolean) 0 := ⟨q1746, q127, by decide, by decide, by decide +kernel⟩
theorem ok_X12_readCond : zOK yX12_readCond cX12_readCond 1 (some .boolean) 0 := ⟨q1738, q127, by decide, by decide, by decide +kernel⟩
theorem ok_X12_readLawLine : zOK yX12_readLawLine cX12_readLawLine 3 (some .boolean) 1 := ⟨q1728, q127, by decide, by decide, by decide +kernel⟩
theorem ok_X12_readLetter : zOK yX12_readLetter cX12_readLetter 5 (some .boolean) 0 := ⟨q1651, q127, by decide, by decide, by decide +kernel⟩
theorem ok_X12_readLine : zOK yX12_readLine cX12_readLine 3 (some .boolean) 2 := ⟨q1632, q127, by decide, by decide, by decide +kernel⟩
theorem ok_X12_readNumber : zOK yX12_readNumber cX12_readNumber 5 (some .boolean) 3 := ⟨q1717, q127, by decide, by decide, by decide +kernel⟩
theorem ok_X12_readOf : zOK yX12_readOf cX12_readOf 3 (some .boolean) 1 := ⟨q1722, q127, by decide, by decide, by decide +kernel⟩
theorem ok_X12_readPart : zOK yX12_readPart cX12_readPart 2 (some .boolean) 0 := ⟨q1768, q127, by decide, by decide, by decide +kernel⟩
theorem ok_X12_readPostLine : zOK yX12_readPostLine cX12_readPostLine 1 (some .boolean) 0 := ⟨q1640, q127, by decide, by decide, by decide +kernel⟩
theorem ok_X12_readPromise : zOK yX12_readPromise cX12_readPromise 4 (some .boolean) 0 := ⟨q1708, q127, by decide, by decide, by decide +kernel⟩
theorem ok_X12_readSum : zOK yX12_readSum cX12_readSum 1 (some .boolean) 0 := ⟨q1764, q127, by decide, by decide, by decide +kernel⟩
theorem ok_X12_readTag : zOK yX12_readTag cX12_readTag 2 (some .boolean) 0 := ⟨q1759, q127, by decide, by decide, by decide +kernel⟩
theorem ok_X12_readWords : zOK yX12_readWords cX12_readWords 3 (some .boolean) 0 := ⟨q1695, q127, by decide, by decide, by decide +kernel⟩
theorem ok_X12_remembers : zOK yX12_remembers cX12_remembers 2 none 0 := ⟨q1883, q127, by decide, by decide, by decide +kernel⟩
theorem ok_X12_ripe : zOK yX12_ripe cX12_ripe 7 (some .int) 2 := ⟨q2086, q127, by decide, by decide, by decide +kernel⟩
theorem ok_X12_says : zOK yX12_says cX12_says 4 (some .int) 3 := ⟨q1956, q127, by decide, by decide, by decide +kernel⟩
theorem ok_X12_saysBy : zOK yX12_saysBy cX12_saysBy 5 (some .int) 3 := ⟨q1960, q127, by decide, by decide, by decide +kernel⟩
theorem ok_X12_season : zOK yX12_season cX12_season 2 (some .int) 1 := ⟨q1872, q127, by decide, by decide, by decide +kernel⟩
theorem ok_X12_seasonOf : zOK yX12_seasonOf cX12_seasonOf 1 (some .int) 1 := ⟨q1837, q127, by decide, by decide, by decide +kernel⟩
theorem ok_X12_seed : zOK yX12_seed cX12_seed 3 (some .int) 1 := ⟨q2161, q127, by decide, by decide, by decide +kernel⟩
theorem ok_X12_send : zOK yX12_send cX12_send 9 (some .int) 5 := ⟨q1976, q127, by decide, by decide, by decide +kernel⟩
theorem ok_X12_senseless : zOK yX12_senseless cX12_senseless 3 (some .int) 1 := ⟨q2008, q127, by decide, by decide, by decide +kernel⟩
theorem ok_X12_shelves : zOK yX12_shelves cX12_shelves 6 (some .int) 3 := ⟨q2114, q127, by decide, by decide, by decide +kernel⟩
theorem ok_X12_sign : zOK yX12_sign cX12_sign 2 (some .boolean) 1 := ⟨q1750, q127, by decide, by decide, by decide +kernel⟩
theorem ok_X12_soonest : zOK yX12_soonest cX12_soonest 6 (some .int) 1 := ⟨q2082, q127, by decide, by decide, by decide +kernel⟩
theorem ok_X12_span : zOK yX12_span cX12_span 6 (some .int) 2 := ⟨q2149, q127, by decide, by decide, by decide +kernel⟩
theorem ok_X12_spies : zOK yX12_spies cX12_spies 4 (some .int) 1 := ⟨q2090, q127, by decide, by decide, by decide +kernel⟩
theorem ok_X12_stays : zOK yX12_stays cX12_stays 5 (some .int) 2 := ⟨q1972, q127, by decide, by decide, by decide +kernel⟩
theorem ok_X12_stops : zOK yX12_stops cX12_stops 3 (some .int) 1 := ⟨q1968, q127, by decide, by decide, by decide +kernel⟩
theorem ok_X12_tempers : zOK yX12_tempers cX12_tempers 6 (some .int) 3 := ⟨q2129, q127, by decide, by decide, by decide +kernel⟩
theorem ok_X12_those : zOK yX12_those cX12_those 4 (some .int) 1 := ⟨q2169, q127, by decide, by decide, by decide +kernel⟩
theorem ok_X12_thrown : zOK yX12_thrown cX12_thrown 1 (some .int) 0 := ⟨q1487, q127, by decide, by decide, by decide +kernel⟩
theorem ok_X12_throwsIf : zOK yX12_throwsIf cX12_throwsIf 3 (some .boolean) 2 := ⟨q1778, q127, by decide, by decide, by decide +kernel⟩
theorem ok_X12_trial : zOK yX12_trial cX12_trial 4 (some .int) 2 := ⟨q2133, q127, by decide, by decide, by decide +kernel⟩
theorem ok_X12_turns : zOK yX12_turns cX12_turns 5 (some .boolean) 3 := ⟨q1891, q127, by decide, by decide, by decide +kernel⟩
theorem ok_X12_undo : zOK yX12_undo cX12_undo 2 (some .boolean) 0 := ⟨q1596, q127, by decide, by decide, by decide +kernel⟩
theorem ok_X12_uses : zOK yX12_uses cX12_uses 1 none 0 := ⟨q1620, q127, by decide, by decide, by decide +kernel⟩
theorem ok_X12_weeks : zOK yX12_weeks cX12_weeks 4 (some .int) 1 := ⟨q1915, q127, by decide, by decide, by decide +kernel⟩
theorem ok_X12_when : zOK yX12_when cX12_when 3 (some .int) 2 := ⟨q2074, q127, by decide, by decide, by decide +kernel⟩
theorem ok_X12_whenOf : zOK yX12_whenOf cX12_whenOf 4 (some .int) 2 := ⟨q2078, q127, by decide, by decide, by decide +kernel⟩
theorem ok_X12_words : zOK yX12_words cX12_words 2 (some .int) 1 := ⟨q1853, q127, by decide, by decide, by decide +kernel⟩
theorem ok_X12_wordsNow : zOK yX12_wordsNow cX12_wordsNow 3 (some .int) 0 := ⟨q1806, q127, by decide, by decide, by decide +kernel⟩
theorem ok_X12_write : zOK yX12_write cX12_write 6 (some .int) 2 := ⟨q1876, q127, by decide, by decide, by decide +kernel⟩
theorem ok_X12_written : zOK yX12_written cX12_written 3 (some .int) 1 := ⟨q2000, q127, by decide, by decide, by decide +kernel⟩
theorem ok_J6_bitCount_0f7a4 : zOK yJ6_bitCount_0f7a4 cJ6_bitCount_0f7a4 1 (some .int) 1 := ⟨q1374, q142, by decide, by decide, by decide +kernel⟩
theorem ok_J6_numberOfLeadingZeros_0f7a4 : zOK yJ6_numberOfLeadingZeros_0f7a4 cJ6_numberOfLeadingZeros_0f7a4 2 (some .int) 1 := ⟨q2003, q142, by decide, by decide, by decide +kernel⟩
