section
/-! NAMES: codes, names, decode rows (by program out of JAVAP.txt); the words of the tables that the contracts use -/
def wG1 : List Cond := [Cond.initialized "PageDriveLaw", Cond.initialized "PageDrive", Cond.initialized "PageDrive$Pool", Cond.initialized "java/lang/Math", Cond.initialized "PageDrive$Entry", Cond.initialized "PageDrive$Content", Cond.initialized "PageDriveModel", Cond.initialized "java/lang/Throwable", Cond.initialized "java/lang/Exception", Cond.initialized "java/lang/RuntimeException", Cond.initialized "java/lang/IllegalArgumentException", Cond.initialized "java/lang/IllegalStateException", Cond.initialized "java/lang/IndexOutOfBoundsException", Cond.initialized "java/lang/UnsupportedOperationException", Cond.initialized "java/lang/System", Cond.initialized "java/util/NoSuchElementException", Cond.classLink "PageDriveLaw" 8 "PageDrive", Cond.instantiable "PageDrive" 4, Cond.methodLink "PageDriveLaw" 57 ⟨"PageDrive", "<init>", "(I)V"⟩, Cond.instanceMethod ⟨"PageDrive", "<init>", "(I)V"⟩, Cond.code ⟨"PageDrive", "<init>", "(I)V"⟩ prog_1_method_1_code 3 none, Cond.methodLink "PageDrive" 1 ⟨"java/lang/Object", "<init>", "()V"⟩, Cond.instanceMethod ⟨"java/lang/Object", "<init>", "()V"⟩, Cond.code ⟨"java/lang/Object", "<init>", "()V"⟩ object_method_1_code 1 none, Cond.classLink "PageDrive" 7 "PageDrive$Pool", Cond.instantiable "PageDrive$Pool" 6, Cond.methodLink "PageDrive" 11 ⟨"java/lang/Math", "min", "(II)I"⟩, Cond.static ⟨"java/lang/Math", "min", "(II)I"⟩, Cond.code ⟨"java/lang/Math", "min", "(II)I"⟩ prog_11_method_69_code 2 (some .int), Cond.methodLink "PageDrive" 17 ⟨"java/lang/Math", "max", "(II)I"⟩, Cond.static ⟨"java/lang/Math", "max", "(II)I"⟩, Cond.code ⟨"java/lang/Math", "max", "(II)I"⟩ prog_11_method_65_code 2 (some .int), Cond.methodLink "PageDrive" 20 ⟨"PageDrive$Pool", "<init>", "(I)V"⟩, Cond.instanceMethod ⟨"PageDrive$Pool", "<init>", "(I)V"⟩, Cond.code ⟨"PageDrive$Pool", "<init>", "(I)V"⟩ prog_4_method_1_code 3 none, Cond.methodLink "PageDrive$Pool" 3 ⟨"java/lang/Object", "<init>", "()V"⟩, Cond.fieldLink "PageDrive$Pool" 9 "PageDrive$Pool" "pages" "I", Cond.fieldLink "PageDrive" 159 "PageDrive$Pool" "pages" "I", Cond.fieldLink "PageDrive$Pool" 15 "PageDrive$Pool" "bytes" "[B", Cond.fieldLink "PageDrive" 153 "PageDrive$Pool" "bytes" "[B"]
def wG2 : List Cond := [Cond.fieldLink "PageDrive$Pool" 19 "PageDrive$Pool" "rowsWith" "[I", Cond.fieldLink "PageDrive$Pool" 23 "PageDrive$Pool" "unused" "[I", Cond.fieldLink "PageDrive$Pool" 26 "PageDrive$Pool" "unusedCount" "I", Cond.fieldLink "PageDrive" 162 "PageDrive$Pool" "unusedCount" "I", Cond.fieldLink "PageDrive$Pool" 29 "PageDrive$Pool" "copied" "I", Cond.fieldLink "PageDrive" 165 "PageDrive$Pool" "copied" "I", Cond.laysFinal "PageDrive$Pool" "PageDrive$Pool" "pages" "I", Cond.soleField "PageDrive$Pool" "pages", Cond.laysFinal "PageDrive$Pool" "PageDrive$Pool" "bytes" "[B", Cond.soleField "PageDrive$Pool" "bytes", Cond.laysFinal "PageDrive$Pool" "PageDrive$Pool" "rowsWith" "[I", Cond.soleField "PageDrive$Pool" "rowsWith", Cond.laysFinal "PageDrive$Pool" "PageDrive$Pool" "unused" "[I", Cond.soleField "PageDrive$Pool" "unused", Cond.lays "PageDrive$Pool" "PageDrive$Pool" "unusedCount" "I", Cond.soleField "PageDrive$Pool" "unusedCount", Cond.lays "PageDrive$Pool" "PageDrive$Pool" "copied" "I", Cond.soleField "PageDrive$Pool" "copied", Cond.superclass "PageDrive$Pool" "java/lang/Object", Cond.arrayClass FieldType.byte, Cond.arrayClass FieldType.int, Cond.classLink "PageDrive" 27 "PageDrive$Entry", Cond.instantiable "PageDrive$Entry" 3, Cond.instanceMethod ⟨"PageDrive$Entry", "<init>", "()V"⟩, Cond.code ⟨"PageDrive$Entry", "<init>", "()V"⟩ prog_3_method_1_code 1 none, Cond.methodLink "PageDrive$Entry" 1 ⟨"java/lang/Object", "<init>", "()V"⟩, Cond.classLink "PageDrive$Entry" 7 "PageDrive$Content", Cond.instantiable "PageDrive$Content" 3, Cond.instanceMethod ⟨"PageDrive$Content", "<init>", "()V"⟩, Cond.code ⟨"PageDrive$Content", "<init>", "()V"⟩ prog_2_method_1_code 1 none, Cond.methodLink "PageDrive$Content" 3 ⟨"java/lang/Object", "<init>", "()V"⟩, Cond.fieldLink "PageDrive$Content" 9 "PageDrive$Content" "row" "[I", Cond.fieldLink "PageDrive" 171 "PageDrive$Content" "row" "[I", Cond.fieldLink "PageDrive$Content" 15 "PageDrive$Content" "size" "I", Cond.fieldLink "PageDrive" 67 "PageDrive$Content" "size" "I", Cond.fieldLink "PageDrive$Content" 19 "PageDrive$Content" "there" "Z", Cond.fieldLink "PageDrive" 91 "PageDrive$Content" "there" "Z", Cond.laysFinal "PageDrive$Content" "PageDrive$Content" "row" "[I", Cond.soleField "PageDrive$Content" "row", Cond.lays "PageDrive$Content" "PageDrive$Content" "size" "I"]
def wG3 : List Cond := [Cond.soleField "PageDrive$Content" "size", Cond.lays "PageDrive$Content" "PageDrive$Content" "there" "Z", Cond.soleField "PageDrive$Content" "there", Cond.superclass "PageDrive$Content" "java/lang/Object", Cond.fieldLink "PageDrive$Entry" 10 "PageDrive$Entry" "now" "LPageDrive$Content;", Cond.fieldLink "PageDrive" 63 "PageDrive$Entry" "now" "LPageDrive$Content;", Cond.fieldLink "PageDrive$Entry" 16 "PageDrive$Entry" "synced" "LPageDrive$Content;", Cond.fieldLink "PageDrive" 112 "PageDrive$Entry" "synced" "LPageDrive$Content;", Cond.fieldLink "PageDrive$Entry" 19 "PageDrive$Entry" "low" "I", Cond.fieldLink "PageDrive" 105 "PageDrive$Entry" "low" "I", Cond.laysFinal "PageDrive$Entry" "PageDrive$Entry" "now" "LPageDrive$Content;", Cond.soleField "PageDrive$Entry" "now", Cond.laysFinal "PageDrive$Entry" "PageDrive$Entry" "synced" "LPageDrive$Content;", Cond.soleField "PageDrive$Entry" "synced", Cond.lays "PageDrive$Entry" "PageDrive$Entry" "low" "I", Cond.soleField "PageDrive$Entry" "low", Cond.superclass "PageDrive$Entry" "java/lang/Object", Cond.fieldLink "PageDrive" 23 "PageDrive" "pool" "LPageDrive$Pool;", Cond.fieldLink "PageDrive" 29 "PageDrive" "entries" "[LPageDrive$Entry;", Cond.fieldLink "PageDrive" 34 "PageDrive" "tape" "[B", Cond.fieldLink "PageDrive" 38 "PageDrive" "taped" "I", Cond.laysFinal "PageDrive" "PageDrive" "pool" "LPageDrive$Pool;", Cond.soleField "PageDrive" "pool", Cond.laysFinal "PageDrive" "PageDrive" "entries" "[LPageDrive$Entry;", Cond.soleField "PageDrive" "entries", Cond.laysFinal "PageDrive" "PageDrive" "tape" "[B", Cond.soleField "PageDrive" "tape", Cond.lays "PageDrive" "PageDrive" "taped" "I", Cond.soleField "PageDrive" "taped", Cond.superclass "PageDrive" "java/lang/Object", Cond.methodLink "PageDriveLaw" 93 ⟨"PageDrive", "crashAll", "(J)I"⟩, Cond.instanceMethod ⟨"PageDrive", "crashAll", "(J)I"⟩, Cond.selects "PageDrive" ⟨"PageDrive", "crashAll", "(J)I"⟩ ⟨"PageDrive", "crashAll", "(J)I"⟩, Cond.code ⟨"PageDrive", "crashAll", "(J)I"⟩ prog_1_method_9_code 6 (some .int), Cond.constantLong "PageDrive" 129 (6364136223846793005), Cond.constantLong "PageDrive" 131 (1442695040888963407), Cond.methodLink "PageDrive" 133 ⟨"PageDrive", "keepOf", "(JLPageDrive$Entry;)I"⟩, Cond.static ⟨"PageDrive", "keepOf", "(JLPageDrive$Entry;)I"⟩, Cond.code ⟨"PageDrive", "keepOf", "(JLPageDrive$Entry;)I"⟩ prog_1_method_24_code 5 (some .int), Cond.constantLong "PageDrive" 196 (1048575)]
def wG4 : List Cond := [Cond.methodLink "PageDrive" 125 ⟨"PageDrive", "fall", "(LPageDrive$Entry;I)V"⟩, Cond.instanceMethod ⟨"PageDrive", "fall", "(LPageDrive$Entry;I)V"⟩, Cond.code ⟨"PageDrive", "fall", "(LPageDrive$Entry;I)V"⟩ prog_1_method_23_code 3 none, Cond.methodLink "PageDrive" 108 ⟨"PageDrive", "become", "(LPageDrive$Content;LPageDrive$Content;)V"⟩, Cond.instanceMethod ⟨"PageDrive", "become", "(LPageDrive$Content;LPageDrive$Content;)V"⟩, Cond.code ⟨"PageDrive", "become", "(LPageDrive$Content;LPageDrive$Content;)V"⟩ prog_1_method_21_code 5 none, Cond.methodLink "PageDrive" 143 ⟨"PageDrive", "pagesFor", "(I)I"⟩, Cond.static ⟨"PageDrive", "pagesFor", "(I)I"⟩, Cond.code ⟨"PageDrive", "pagesFor", "(I)I"⟩ prog_1_method_14_code 1 (some .int), Cond.methodLink "PageDrive" 187 ⟨"PageDrive$Pool", "join", "(I)V"⟩, Cond.instanceMethod ⟨"PageDrive$Pool", "join", "(I)V"⟩, Cond.selects "PageDrive$Pool" ⟨"PageDrive$Pool", "join", "(I)V"⟩ ⟨"PageDrive$Pool", "join", "(I)V"⟩, Cond.code ⟨"PageDrive$Pool", "join", "(I)V"⟩ prog_4_method_4_code 2 none, Cond.methodLink "PageDrive" 102 ⟨"PageDrive", "shorten", "(LPageDrive$Content;I)V"⟩, Cond.instanceMethod ⟨"PageDrive", "shorten", "(LPageDrive$Content;I)V"⟩, Cond.code ⟨"PageDrive", "shorten", "(LPageDrive$Content;I)V"⟩ prog_1_method_20_code 4 none, Cond.methodLink "PageDrive" 184 ⟨"PageDrive$Pool", "leave", "(I)V"⟩, Cond.instanceMethod ⟨"PageDrive$Pool", "leave", "(I)V"⟩, Cond.selects "PageDrive$Pool" ⟨"PageDrive$Pool", "leave", "(I)V"⟩ ⟨"PageDrive$Pool", "leave", "(I)V"⟩, Cond.code ⟨"PageDrive$Pool", "leave", "(I)V"⟩ prog_4_method_5_code 2 none, Cond.methodLink "PageDrive" 190 ⟨"java/lang/System", "arraycopy", "(Ljava/lang/Object;ILjava/lang/Object;II)V"⟩, Cond.static ⟨"java/lang/System", "arraycopy", "(Ljava/lang/Object;ILjava/lang/Object;II)V"⟩, Cond.native ⟨"java/lang/System", "arraycopy", "(Ljava/lang/Object;ILjava/lang/Object;II)V"⟩, Cond.methodLink "PageDrive" 119 ⟨"PageDrive", "settle", "(LPageDrive$Entry;)V"⟩, Cond.instanceMethod ⟨"PageDrive", "settle", "(LPageDrive$Entry;)V"⟩, Cond.code ⟨"PageDrive", "settle", "(LPageDrive$Entry;)V"⟩ prog_1_method_22_code 2 none, Cond.methodLink "PageDrive" 137 ⟨"PageDrive", "filesThere", "()I"⟩, Cond.instanceMethod ⟨"PageDrive", "filesThere", "()I"⟩, Cond.code ⟨"PageDrive", "filesThere", "()I"⟩ prog_1_method_15_code 3 (some .int), Cond.methodLink "PageDriveLaw" 105 ⟨"PageDrive", "count", "(I)I"⟩, Cond.instanceMethod ⟨"PageDrive", "count", "(I)I"⟩, Cond.selects "PageDrive" ⟨"PageDrive", "count", "(I)I"⟩ ⟨"PageDrive", "count", "(I)I"⟩, Cond.code ⟨"PageDrive", "count", "(I)I"⟩ prog_1_method_12_code 2 (some .int), Cond.methodLink "PageDriveLaw" 51 ⟨"PageDriveLaw", "cell", "([II)I"⟩, Cond.static ⟨"PageDriveLaw", "cell", "([II)I"⟩, Cond.code ⟨"PageDriveLaw", "cell", "([II)I"⟩ method_2_code 2 (some .int), Cond.methodLink "PageDriveLaw" 65 ⟨"PageDriveLaw", "feed", "(LPageDrive;JI[J)I"⟩, Cond.static ⟨"PageDriveLaw", "feed", "(LPageDrive;JI[J)I"⟩, Cond.codeWith ⟨"PageDriveLaw", "feed", "(LPageDrive;JI[J)I"⟩ method_3_code 6 (some .int) [(0, 11, 14, 13), (0, 11, 18, 15)], Cond.classLink "PageDriveLaw" 13 "java/lang/IllegalArgumentException"]
def wG5 : List Cond := [Cond.classLink "PageDriveLaw" 15 "java/lang/IllegalStateException", Cond.methodLink "PageDriveLaw" 7 ⟨"PageDrive", "feed", "(JI)I"⟩, Cond.instanceMethod ⟨"PageDrive", "feed", "(JI)I"⟩, Cond.selects "PageDrive" ⟨"PageDrive", "feed", "(JI)I"⟩ ⟨"PageDrive", "feed", "(JI)I"⟩, Cond.code ⟨"PageDrive", "feed", "(JI)I"⟩ prog_1_method_2_code 5 (some .int), Cond.classLink "PageDrive" 42 "java/lang/IllegalArgumentException", Cond.instantiable "java/lang/IllegalArgumentException" 6, Cond.selects "java/lang/IllegalArgumentException" ⟨"java/lang/Throwable", "fillInStackTrace", "(I)Ljava/lang/Throwable;"⟩ ⟨"java/lang/Throwable", "fillInStackTrace", "(I)Ljava/lang/Throwable;"⟩, Cond.selects "java/lang/IllegalArgumentException" ⟨"java/lang/Throwable", "fillInStackTrace", "()Ljava/lang/Throwable;"⟩ ⟨"java/lang/Throwable", "fillInStackTrace", "()Ljava/lang/Throwable;"⟩, Cond.lays "java/lang/IllegalArgumentException" "java/lang/Throwable" "cause" "Ljava/lang/Throwable;", Cond.lays "java/lang/Throwable" "java/lang/Throwable" "cause" "Ljava/lang/Throwable;", Cond.lays "java/lang/IllegalArgumentException" "java/lang/Throwable" "stackTrace" "[Ljava/lang/StackTraceElement;", Cond.lays "java/lang/Throwable" "java/lang/Throwable" "stackTrace" "[Ljava/lang/StackTraceElement;", Cond.lays "java/lang/IllegalArgumentException" "java/lang/Throwable" "suppressedExceptions" "Ljava/util/List;", Cond.lays "java/lang/Throwable" "java/lang/Throwable" "suppressedExceptions" "Ljava/util/List;", Cond.lays "java/lang/IllegalArgumentException" "java/lang/Throwable" "detailMessage" "Ljava/lang/String;", Cond.lays "java/lang/Throwable" "java/lang/Throwable" "detailMessage" "Ljava/lang/String;", Cond.lays "java/lang/IllegalArgumentException" "java/lang/Throwable" "backtrace" "Ljava/lang/Object;", Cond.lays "java/lang/Throwable" "java/lang/Throwable" "backtrace" "Ljava/lang/Object;", Cond.fieldLink "java/lang/Throwable" 198 "java/lang/Throwable" "backtrace" "Ljava/lang/Object;", Cond.superclass "java/lang/Throwable" "java/lang/Object", Cond.instanceMethod ⟨"java/lang/Throwable", "<init>", "()V"⟩, Cond.code ⟨"java/lang/Throwable", "<init>", "()V"⟩ prog_15_method_1_code 1 none, Cond.methodLink "java/lang/Throwable" 1 ⟨"java/lang/Object", "<init>", "()V"⟩, Cond.fieldLink "java/lang/Throwable" 13 "java/lang/Throwable" "UNASSIGNED_STACK" "[Ljava/lang/StackTraceElement;", Cond.fieldLink "java/lang/Throwable" 20 "java/lang/Throwable" "SUPPRESSED_SENTINEL" "Ljava/util/List;", Cond.methodLink "java/lang/Throwable" 27 ⟨"java/lang/Throwable", "fillInStackTrace", "()Ljava/lang/Throwable;"⟩, Cond.instanceMethod ⟨"java/lang/Throwable", "fillInStackTrace", "()Ljava/lang/Throwable;"⟩, Cond.sameMethod "java/lang/Throwable" "java/lang/Throwable" "fillInStackTrace" "()Ljava/lang/Throwable;", Cond.selects "java/lang/IllegalStateException" ⟨"java/lang/Throwable", "fillInStackTrace", "()Ljava/lang/Throwable;"⟩ ⟨"java/lang/Throwable", "fillInStackTrace", "()Ljava/lang/Throwable;"⟩, Cond.selects "java/lang/IndexOutOfBoundsException" ⟨"java/lang/Throwable", "fillInStackTrace", "()Ljava/lang/Throwable;"⟩ ⟨"java/lang/Throwable", "fillInStackTrace", "()Ljava/lang/Throwable;"⟩, Cond.selects "java/lang/UnsupportedOperationException" ⟨"java/lang/Throwable", "fillInStackTrace", "()Ljava/lang/Throwable;"⟩ ⟨"java/lang/Throwable", "fillInStackTrace", "()Ljava/lang/Throwable;"⟩, Cond.selects "java/util/NoSuchElementException" ⟨"java/lang/Throwable", "fillInStackTrace", "()Ljava/lang/Throwable;"⟩ ⟨"java/lang/Throwable", "fillInStackTrace", "()Ljava/lang/Throwable;"⟩, Cond.codeSync ⟨"java/lang/Throwable", "fillInStackTrace", "()Ljava/lang/Throwable;"⟩ prog_15_method_18_code 1 (Option.some (FieldType.object "java/lang/Throwable")), Cond.methodLink "java/lang/Throwable" 202 ⟨"java/lang/Throwable", "fillInStackTrace", "(I)Ljava/lang/Throwable;"⟩, Cond.instanceMethod ⟨"java/lang/Throwable", "fillInStackTrace", "(I)Ljava/lang/Throwable;"⟩, Cond.instantiable "java/lang/Throwable" 6, Cond.native ⟨"java/lang/Throwable", "fillInStackTrace", "(I)Ljava/lang/Throwable;"⟩, Cond.methodLink "PageDrive" 46 ⟨"java/lang/IllegalArgumentException", "<init>", "(Ljava/lang/String;)V"⟩, Cond.instanceMethod ⟨"java/lang/IllegalArgumentException", "<init>", "(Ljava/lang/String;)V"⟩]
def wG6 : List Cond := [Cond.code ⟨"java/lang/IllegalArgumentException", "<init>", "(Ljava/lang/String;)V"⟩ prog_8_method_2_code 2 none, Cond.methodLink "java/lang/IllegalArgumentException" 7 ⟨"java/lang/RuntimeException", "<init>", "(Ljava/lang/String;)V"⟩, Cond.instanceMethod ⟨"java/lang/RuntimeException", "<init>", "(Ljava/lang/String;)V"⟩, Cond.code ⟨"java/lang/RuntimeException", "<init>", "(Ljava/lang/String;)V"⟩ prog_12_method_2_code 2 none, Cond.methodLink "java/lang/RuntimeException" 7 ⟨"java/lang/Exception", "<init>", "(Ljava/lang/String;)V"⟩, Cond.instanceMethod ⟨"java/lang/Exception", "<init>", "(Ljava/lang/String;)V"⟩, Cond.code ⟨"java/lang/Exception", "<init>", "(Ljava/lang/String;)V"⟩ prog_7_method_2_code 2 none, Cond.methodLink "java/lang/Exception" 7 ⟨"java/lang/Throwable", "<init>", "(Ljava/lang/String;)V"⟩, Cond.instanceMethod ⟨"java/lang/Throwable", "<init>", "(Ljava/lang/String;)V"⟩, Cond.code ⟨"java/lang/Throwable", "<init>", "(Ljava/lang/String;)V"⟩ prog_15_method_2_code 2 none, Cond.fieldLink "java/lang/Throwable" 31 "java/lang/Throwable" "detailMessage" "Ljava/lang/String;", Cond.fieldLink "java/lang/Throwable" 7 "java/lang/Throwable" "cause" "Ljava/lang/Throwable;", Cond.fieldLink "java/lang/Throwable" 17 "java/lang/Throwable" "stackTrace" "[Ljava/lang/StackTraceElement;", Cond.fieldLink "java/lang/Throwable" 24 "java/lang/Throwable" "suppressedExceptions" "Ljava/util/List;", Cond.soleField "java/lang/Throwable" "backtrace", Cond.soleField "java/lang/Throwable" "detailMessage", Cond.soleField "java/lang/Throwable" "cause", Cond.soleField "java/lang/Throwable" "stackTrace", Cond.lays "java/lang/IllegalArgumentException" "java/lang/Throwable" "depth" "I", Cond.soleField "java/lang/Throwable" "depth", Cond.soleField "java/lang/Throwable" "suppressedExceptions", Cond.superclass "java/lang/IllegalArgumentException" "java/lang/RuntimeException", Cond.classLink "PageDrive" 49 "java/lang/IllegalStateException", Cond.instantiable "java/lang/IllegalStateException" 6, Cond.selects "java/lang/IllegalStateException" ⟨"java/lang/Throwable", "fillInStackTrace", "(I)Ljava/lang/Throwable;"⟩ ⟨"java/lang/Throwable", "fillInStackTrace", "(I)Ljava/lang/Throwable;"⟩, Cond.lays "java/lang/IllegalStateException" "java/lang/Throwable" "cause" "Ljava/lang/Throwable;", Cond.lays "java/lang/IllegalStateException" "java/lang/Throwable" "stackTrace" "[Ljava/lang/StackTraceElement;", Cond.lays "java/lang/IllegalStateException" "java/lang/Throwable" "suppressedExceptions" "Ljava/util/List;", Cond.lays "java/lang/IllegalStateException" "java/lang/Throwable" "detailMessage" "Ljava/lang/String;", Cond.lays "java/lang/IllegalStateException" "java/lang/Throwable" "backtrace" "Ljava/lang/Object;", Cond.methodLink "PageDrive" 53 ⟨"java/lang/IllegalStateException", "<init>", "(Ljava/lang/String;)V"⟩, Cond.instanceMethod ⟨"java/lang/IllegalStateException", "<init>", "(Ljava/lang/String;)V"⟩, Cond.code ⟨"java/lang/IllegalStateException", "<init>", "(Ljava/lang/String;)V"⟩ prog_9_method_2_code 2 none, Cond.methodLink "java/lang/IllegalStateException" 7 ⟨"java/lang/RuntimeException", "<init>", "(Ljava/lang/String;)V"⟩, Cond.lays "java/lang/IllegalStateException" "java/lang/Throwable" "depth" "I", Cond.superclass "java/lang/IllegalStateException" "java/lang/RuntimeException", Cond.methodLink "PageDriveLaw" 73 ⟨"PageDriveLaw", "append", "(LPageDrive;II[J)I"⟩, Cond.static ⟨"PageDriveLaw", "append", "(LPageDrive;II[J)I"⟩, Cond.codeWith ⟨"PageDriveLaw", "append", "(LPageDrive;II[J)I"⟩ method_4_code 5 (some .int) [(0, 10, 13, 21), (0, 10, 17, 23)], Cond.classLink "PageDriveLaw" 21 "java/lang/IndexOutOfBoundsException"]
def wG7 : List Cond := [Cond.classLink "PageDriveLaw" 23 "java/lang/UnsupportedOperationException", Cond.methodLink "PageDriveLaw" 17 ⟨"PageDrive", "append", "(II)I"⟩, Cond.instanceMethod ⟨"PageDrive", "append", "(II)I"⟩, Cond.selects "PageDrive" ⟨"PageDrive", "append", "(II)I"⟩ ⟨"PageDrive", "append", "(II)I"⟩, Cond.code ⟨"PageDrive", "append", "(II)I"⟩ prog_1_method_3_code 7 (some .int), Cond.methodLink "PageDrive" 54 ⟨"PageDrive", "isFile", "(I)Z"⟩, Cond.static ⟨"PageDrive", "isFile", "(I)Z"⟩, Cond.code ⟨"PageDrive", "isFile", "(I)Z"⟩ prog_1_method_13_code 1 (some .boolean), Cond.classLink "PageDrive" 58 "java/lang/IndexOutOfBoundsException", Cond.instantiable "java/lang/IndexOutOfBoundsException" 6, Cond.selects "java/lang/IndexOutOfBoundsException" ⟨"java/lang/Throwable", "fillInStackTrace", "(I)Ljava/lang/Throwable;"⟩ ⟨"java/lang/Throwable", "fillInStackTrace", "(I)Ljava/lang/Throwable;"⟩, Cond.lays "java/lang/IndexOutOfBoundsException" "java/lang/Throwable" "cause" "Ljava/lang/Throwable;", Cond.lays "java/lang/IndexOutOfBoundsException" "java/lang/Throwable" "stackTrace" "[Ljava/lang/StackTraceElement;", Cond.lays "java/lang/IndexOutOfBoundsException" "java/lang/Throwable" "suppressedExceptions" "Ljava/util/List;", Cond.lays "java/lang/IndexOutOfBoundsException" "java/lang/Throwable" "detailMessage" "Ljava/lang/String;", Cond.lays "java/lang/IndexOutOfBoundsException" "java/lang/Throwable" "backtrace" "Ljava/lang/Object;", Cond.methodLink "PageDrive" 62 ⟨"java/lang/IndexOutOfBoundsException", "<init>", "(Ljava/lang/String;)V"⟩, Cond.instanceMethod ⟨"java/lang/IndexOutOfBoundsException", "<init>", "(Ljava/lang/String;)V"⟩, Cond.code ⟨"java/lang/IndexOutOfBoundsException", "<init>", "(Ljava/lang/String;)V"⟩ prog_10_method_2_code 2 none, Cond.methodLink "java/lang/IndexOutOfBoundsException" 7 ⟨"java/lang/RuntimeException", "<init>", "(Ljava/lang/String;)V"⟩, Cond.lays "java/lang/IndexOutOfBoundsException" "java/lang/Throwable" "depth" "I", Cond.superclass "java/lang/IndexOutOfBoundsException" "java/lang/RuntimeException", Cond.methodLink "PageDrive" 72 ⟨"PageDrive", "hasRoom", "(LPageDrive$Content;I)Z"⟩, Cond.instanceMethod ⟨"PageDrive", "hasRoom", "(LPageDrive$Content;I)Z"⟩, Cond.code ⟨"PageDrive", "hasRoom", "(LPageDrive$Content;I)Z"⟩ prog_1_method_16_code 4 (some .boolean), Cond.methodLink "PageDrive" 168 ⟨"PageDrive", "mustCopyLast", "(LPageDrive$Content;I)Z"⟩, Cond.instanceMethod ⟨"PageDrive", "mustCopyLast", "(LPageDrive$Content;I)Z"⟩, Cond.code ⟨"PageDrive", "mustCopyLast", "(LPageDrive$Content;I)Z"⟩ prog_1_method_17_code 3 (some .boolean), Cond.methodLink "PageDrive" 175 ⟨"PageDrive$Pool", "isShared", "(I)Z"⟩, Cond.instanceMethod ⟨"PageDrive$Pool", "isShared", "(I)Z"⟩, Cond.selects "PageDrive$Pool" ⟨"PageDrive$Pool", "isShared", "(I)Z"⟩ ⟨"PageDrive$Pool", "isShared", "(I)Z"⟩, Cond.code ⟨"PageDrive$Pool", "isShared", "(I)Z"⟩ prog_4_method_2_code 2 (some .boolean), Cond.classLink "PageDrive" 76 "java/lang/UnsupportedOperationException", Cond.instantiable "java/lang/UnsupportedOperationException" 6, Cond.selects "java/lang/UnsupportedOperationException" ⟨"java/lang/Throwable", "fillInStackTrace", "(I)Ljava/lang/Throwable;"⟩ ⟨"java/lang/Throwable", "fillInStackTrace", "(I)Ljava/lang/Throwable;"⟩, Cond.lays "java/lang/UnsupportedOperationException" "java/lang/Throwable" "cause" "Ljava/lang/Throwable;", Cond.lays "java/lang/UnsupportedOperationException" "java/lang/Throwable" "stackTrace" "[Ljava/lang/StackTraceElement;", Cond.lays "java/lang/UnsupportedOperationException" "java/lang/Throwable" "suppressedExceptions" "Ljava/util/List;", Cond.lays "java/lang/UnsupportedOperationException" "java/lang/Throwable" "detailMessage" "Ljava/lang/String;", Cond.lays "java/lang/UnsupportedOperationException" "java/lang/Throwable" "backtrace" "Ljava/lang/Object;"]
def wG8 : List Cond := [Cond.methodLink "PageDrive" 80 ⟨"java/lang/UnsupportedOperationException", "<init>", "(Ljava/lang/String;)V"⟩, Cond.instanceMethod ⟨"java/lang/UnsupportedOperationException", "<init>", "(Ljava/lang/String;)V"⟩, Cond.code ⟨"java/lang/UnsupportedOperationException", "<init>", "(Ljava/lang/String;)V"⟩ prog_16_method_2_code 2 none, Cond.methodLink "java/lang/UnsupportedOperationException" 7 ⟨"java/lang/RuntimeException", "<init>", "(Ljava/lang/String;)V"⟩, Cond.lays "java/lang/UnsupportedOperationException" "java/lang/Throwable" "depth" "I", Cond.superclass "java/lang/UnsupportedOperationException" "java/lang/RuntimeException", Cond.methodLink "PageDrive" 81 ⟨"PageDrive", "grow", "(LPageDrive$Content;I)V"⟩, Cond.instanceMethod ⟨"PageDrive", "grow", "(LPageDrive$Content;I)V"⟩, Cond.code ⟨"PageDrive", "grow", "(LPageDrive$Content;I)V"⟩ prog_1_method_18_code 4 none, Cond.methodLink "PageDrive" 178 ⟨"PageDrive$Pool", "exchangeForCopy", "(I)I"⟩, Cond.instanceMethod ⟨"PageDrive$Pool", "exchangeForCopy", "(I)I"⟩, Cond.selects "PageDrive$Pool" ⟨"PageDrive$Pool", "exchangeForCopy", "(I)I"⟩ ⟨"PageDrive$Pool", "exchangeForCopy", "(I)I"⟩, Cond.code ⟨"PageDrive$Pool", "exchangeForCopy", "(I)I"⟩ prog_4_method_6_code 3 (some .int), Cond.methodLink "PageDrive$Pool" 32 ⟨"PageDrive$Pool", "take", "()I"⟩, Cond.instanceMethod ⟨"PageDrive$Pool", "take", "()I"⟩, Cond.selects "PageDrive$Pool" ⟨"PageDrive$Pool", "take", "()I"⟩ ⟨"PageDrive$Pool", "take", "()I"⟩, Cond.code ⟨"PageDrive$Pool", "take", "()I"⟩ prog_4_method_3_code 2 (some .int), Cond.methodLink "PageDrive$Pool" 36 ⟨"java/lang/System", "arraycopy", "(Ljava/lang/Object;ILjava/lang/Object;II)V"⟩, Cond.methodLink "PageDrive$Pool" 42 ⟨"PageDrive$Pool", "leave", "(I)V"⟩, Cond.methodLink "PageDrive" 181 ⟨"PageDrive$Pool", "take", "()I"⟩, Cond.methodLink "PageDrive" 85 ⟨"PageDrive", "writeTape", "(LPageDrive$Content;III)V"⟩, Cond.instanceMethod ⟨"PageDrive", "writeTape", "(LPageDrive$Content;III)V"⟩, Cond.code ⟨"PageDrive", "writeTape", "(LPageDrive$Content;III)V"⟩ prog_1_method_19_code 8 none, Cond.methodLink "PageDrive" 156 ⟨"PageDrive$Content", "placeOf", "(I)I"⟩, Cond.instanceMethod ⟨"PageDrive$Content", "placeOf", "(I)I"⟩, Cond.selects "PageDrive$Content" ⟨"PageDrive$Content", "placeOf", "(I)I"⟩ ⟨"PageDrive$Content", "placeOf", "(I)I"⟩, Cond.code ⟨"PageDrive$Content", "placeOf", "(I)I"⟩ prog_2_method_2_code 2 (some .int), Cond.methodLink "PageDriveLaw" 77 ⟨"PageDriveLaw", "cut", "(LPageDrive;II[J)I"⟩, Cond.static ⟨"PageDriveLaw", "cut", "(LPageDrive;II[J)I"⟩, Cond.codeWith ⟨"PageDriveLaw", "cut", "(LPageDrive;II[J)I"⟩ method_5_code 5 (some .int) [(0, 10, 13, 21), (0, 10, 17, 28), (0, 10, 21, 13)], Cond.classLink "PageDriveLaw" 28 "java/util/NoSuchElementException", Cond.methodLink "PageDriveLaw" 25 ⟨"PageDrive", "cut", "(II)I"⟩, Cond.instanceMethod ⟨"PageDrive", "cut", "(II)I"⟩, Cond.selects "PageDrive" ⟨"PageDrive", "cut", "(II)I"⟩ ⟨"PageDrive", "cut", "(II)I"⟩, Cond.code ⟨"PageDrive", "cut", "(II)I"⟩ prog_1_method_4_code 5 (some .int), Cond.classLink "PageDrive" 95 "java/util/NoSuchElementException", Cond.instantiable "java/util/NoSuchElementException" 6, Cond.selects "java/util/NoSuchElementException" ⟨"java/lang/Throwable", "fillInStackTrace", "(I)Ljava/lang/Throwable;"⟩ ⟨"java/lang/Throwable", "fillInStackTrace", "(I)Ljava/lang/Throwable;"⟩, Cond.lays "java/util/NoSuchElementException" "java/lang/Throwable" "cause" "Ljava/lang/Throwable;", Cond.lays "java/util/NoSuchElementException" "java/lang/Throwable" "stackTrace" "[Ljava/lang/StackTraceElement;"]
def wG9 : List Cond := [Cond.lays "java/util/NoSuchElementException" "java/lang/Throwable" "suppressedExceptions" "Ljava/util/List;", Cond.lays "java/util/NoSuchElementException" "java/lang/Throwable" "detailMessage" "Ljava/lang/String;", Cond.lays "java/util/NoSuchElementException" "java/lang/Throwable" "backtrace" "Ljava/lang/Object;", Cond.methodLink "PageDrive" 99 ⟨"java/util/NoSuchElementException", "<init>", "(Ljava/lang/String;)V"⟩, Cond.instanceMethod ⟨"java/util/NoSuchElementException", "<init>", "(Ljava/lang/String;)V"⟩, Cond.code ⟨"java/util/NoSuchElementException", "<init>", "(Ljava/lang/String;)V"⟩ prog_17_method_4_code 2 none, Cond.methodLink "java/util/NoSuchElementException" 13 ⟨"java/lang/RuntimeException", "<init>", "(Ljava/lang/String;)V"⟩, Cond.lays "java/util/NoSuchElementException" "java/lang/Throwable" "depth" "I", Cond.superclass "java/util/NoSuchElementException" "java/lang/RuntimeException", Cond.methodLink "PageDriveLaw" 80 ⟨"PageDriveLaw", "remove", "(LPageDrive;I[J)I"⟩, Cond.static ⟨"PageDriveLaw", "remove", "(LPageDrive;I[J)I"⟩, Cond.codeWith ⟨"PageDriveLaw", "remove", "(LPageDrive;I[J)I"⟩ method_6_code 4 (some .int) [(0, 16, 19, 21)], Cond.methodLink "PageDriveLaw" 30 ⟨"PageDrive", "remove", "(I)Z"⟩, Cond.instanceMethod ⟨"PageDrive", "remove", "(I)Z"⟩, Cond.selects "PageDrive" ⟨"PageDrive", "remove", "(I)Z"⟩ ⟨"PageDrive", "remove", "(I)Z"⟩, Cond.code ⟨"PageDrive", "remove", "(I)Z"⟩ prog_1_method_5_code 4 (some .boolean), Cond.methodLink "PageDriveLaw" 84 ⟨"PageDriveLaw", "twin", "(LPageDrive;II[J)I"⟩, Cond.static ⟨"PageDriveLaw", "twin", "(LPageDrive;II[J)I"⟩, Cond.codeWith ⟨"PageDriveLaw", "twin", "(LPageDrive;II[J)I"⟩ method_7_code 5 (some .int) [(0, 10, 13, 21), (0, 10, 17, 28)], Cond.methodLink "PageDriveLaw" 34 ⟨"PageDrive", "twin", "(II)I"⟩, Cond.instanceMethod ⟨"PageDrive", "twin", "(II)I"⟩, Cond.selects "PageDrive" ⟨"PageDrive", "twin", "(II)I"⟩ ⟨"PageDrive", "twin", "(II)I"⟩, Cond.code ⟨"PageDrive", "twin", "(II)I"⟩ prog_1_method_6_code 4 (some .int), Cond.methodLink "PageDriveLaw" 87 ⟨"PageDriveLaw", "sync", "(LPageDrive;I[J)I"⟩, Cond.static ⟨"PageDriveLaw", "sync", "(LPageDrive;I[J)I"⟩, Cond.codeWith ⟨"PageDriveLaw", "sync", "(LPageDrive;I[J)I"⟩ method_8_code 4 (some .int) [(0, 9, 12, 21)], Cond.methodLink "PageDriveLaw" 37 ⟨"PageDrive", "sync", "(I)I"⟩, Cond.instanceMethod ⟨"PageDrive", "sync", "(I)I"⟩, Cond.selects "PageDrive" ⟨"PageDrive", "sync", "(I)I"⟩ ⟨"PageDrive", "sync", "(I)I"⟩, Cond.code ⟨"PageDrive", "sync", "(I)I"⟩ prog_1_method_7_code 4 (some .int), Cond.methodLink "PageDrive" 115 ⟨"PageDrive", "pagesNotIn", "(LPageDrive$Content;LPageDrive$Content;)I"⟩, Cond.static ⟨"PageDrive", "pagesNotIn", "(LPageDrive$Content;LPageDrive$Content;)I"⟩, Cond.code ⟨"PageDrive", "pagesNotIn", "(LPageDrive$Content;LPageDrive$Content;)I"⟩ prog_1_method_25_code 5 (some .int), Cond.methodLink "PageDriveLaw" 90 ⟨"PageDriveLaw", "crash", "(LPageDrive;II[J)I"⟩, Cond.static ⟨"PageDriveLaw", "crash", "(LPageDrive;II[J)I"⟩, Cond.codeWith ⟨"PageDriveLaw", "crash", "(LPageDrive;II[J)I"⟩ method_9_code 5 (some .int) [(0, 10, 13, 21), (0, 10, 17, 13)], Cond.methodLink "PageDriveLaw" 41 ⟨"PageDrive", "crash", "(II)I"⟩, Cond.instanceMethod ⟨"PageDrive", "crash", "(II)I"⟩, Cond.selects "PageDrive" ⟨"PageDrive", "crash", "(II)I"⟩ ⟨"PageDrive", "crash", "(II)I"⟩, Cond.code ⟨"PageDrive", "crash", "(II)I"⟩ prog_1_method_8_code 3 (some .int)]
def wG10 : List Cond := [Cond.methodLink "PageDriveLaw" 98 ⟨"PageDriveLaw", "file", "(LPageDrive;II[J)I"⟩, Cond.static ⟨"PageDriveLaw", "file", "(LPageDrive;II[J)I"⟩, Cond.codeWith ⟨"PageDriveLaw", "file", "(LPageDrive;II[J)I"⟩ method_10_code 5 (some .int) [(0, 10, 13, 21)], Cond.methodLink "PageDriveLaw" 44 ⟨"PageDrive", "file", "(II)I"⟩, Cond.instanceMethod ⟨"PageDrive", "file", "(II)I"⟩, Cond.selects "PageDrive" ⟨"PageDrive", "file", "(II)I"⟩ ⟨"PageDrive", "file", "(II)I"⟩, Cond.code ⟨"PageDrive", "file", "(II)I"⟩ prog_1_method_10_code 4 (some .int), Cond.methodLink "PageDrive" 147 ⟨"PageDrive", "sharedPages", "(LPageDrive$Content;)I"⟩, Cond.instanceMethod ⟨"PageDrive", "sharedPages", "(LPageDrive$Content;)I"⟩, Cond.code ⟨"PageDrive", "sharedPages", "(LPageDrive$Content;)I"⟩ prog_1_method_26_code 4 (some .int), Cond.methodLink "PageDriveLaw" 101 ⟨"PageDriveLaw", "byteAt", "(LPageDrive;IZI[J)I"⟩, Cond.static ⟨"PageDriveLaw", "byteAt", "(LPageDrive;IZI[J)I"⟩, Cond.codeWith ⟨"PageDriveLaw", "byteAt", "(LPageDrive;IZI[J)I"⟩ method_11_code 6 (some .int) [(0, 12, 15, 21)], Cond.methodLink "PageDriveLaw" 47 ⟨"PageDrive", "byteAt", "(IZI)I"⟩, Cond.instanceMethod ⟨"PageDrive", "byteAt", "(IZI)I"⟩, Cond.selects "PageDrive" ⟨"PageDrive", "byteAt", "(IZI)I"⟩ ⟨"PageDrive", "byteAt", "(IZI)I"⟩, Cond.code ⟨"PageDrive", "byteAt", "(IZI)I"⟩ prog_1_method_11_code 5 (some .int), Cond.classLink "PageDriveLaw" 60 "PageDriveModel", Cond.instantiable "PageDriveModel" 11, Cond.methodLink "PageDriveLaw" 62 ⟨"PageDriveModel", "<init>", "(I)V"⟩, Cond.instanceMethod ⟨"PageDriveModel", "<init>", "(I)V"⟩, Cond.code ⟨"PageDriveModel", "<init>", "(I)V"⟩ prog_6_method_1_code 2 none, Cond.methodLink "PageDriveModel" 1 ⟨"java/lang/Object", "<init>", "()V"⟩, Cond.fieldLink "PageDriveModel" 37 "PageDriveModel" "thrown" "I", Cond.fieldLink "PageDriveModel" 33 "PageDriveModel" "limit" "I", Cond.fieldLink "PageDriveModel" 48 "PageDriveModel" "fed" "I", Cond.fieldLink "PageDriveModel" 7 "PageDriveModel" "tape" "[I", Cond.fieldLink "PageDriveModel" 13 "PageDriveModel" "pages" "[J", Cond.fieldLink "PageDriveModel" 17 "PageDriveModel" "rows" "[I", Cond.fieldLink "PageDriveModel" 20 "PageDriveModel" "sizes" "[I", Cond.fieldLink "PageDriveModel" 23 "PageDriveModel" "there" "[Z", Cond.fieldLink "PageDriveModel" 27 "PageDriveModel" "lows" "[I", Cond.fieldLink "PageDriveModel" 69 "PageDriveModel" "copied" "I", Cond.fieldLink "PageDriveModel" 30 "PageDriveModel" "seen" "[I", Cond.lays "PageDriveModel" "PageDriveModel" "thrown" "I", Cond.soleField "PageDriveModel" "thrown", Cond.laysFinal "PageDriveModel" "PageDriveModel" "limit" "I", Cond.soleField "PageDriveModel" "limit", Cond.lays "PageDriveModel" "PageDriveModel" "fed" "I", Cond.soleField "PageDriveModel" "fed"]
def wG11 : List Cond := [Cond.laysFinal "PageDriveModel" "PageDriveModel" "tape" "[I", Cond.soleField "PageDriveModel" "tape", Cond.laysFinal "PageDriveModel" "PageDriveModel" "pages" "[J", Cond.soleField "PageDriveModel" "pages", Cond.laysFinal "PageDriveModel" "PageDriveModel" "rows" "[I", Cond.soleField "PageDriveModel" "rows", Cond.laysFinal "PageDriveModel" "PageDriveModel" "sizes" "[I", Cond.soleField "PageDriveModel" "sizes", Cond.laysFinal "PageDriveModel" "PageDriveModel" "there" "[Z", Cond.soleField "PageDriveModel" "there", Cond.laysFinal "PageDriveModel" "PageDriveModel" "lows" "[I", Cond.soleField "PageDriveModel" "lows", Cond.lays "PageDriveModel" "PageDriveModel" "copied" "I", Cond.soleField "PageDriveModel" "copied", Cond.laysFinal "PageDriveModel" "PageDriveModel" "seen" "[I", Cond.soleField "PageDriveModel" "seen", Cond.superclass "PageDriveModel" "java/lang/Object", Cond.arrayClass FieldType.long, Cond.arrayClass FieldType.boolean, Cond.methodLink "PageDriveLaw" 69 ⟨"PageDriveModel", "thrown", "()I"⟩, Cond.instanceMethod ⟨"PageDriveModel", "thrown", "()I"⟩, Cond.selects "PageDriveModel" ⟨"PageDriveModel", "thrown", "()I"⟩ ⟨"PageDriveModel", "thrown", "()I"⟩, Cond.code ⟨"PageDriveModel", "thrown", "()I"⟩ prog_6_method_2_code 1 (some .int), Cond.methodLink "PageDriveLaw" 68 ⟨"PageDriveModel", "feed", "(JI)I"⟩, Cond.instanceMethod ⟨"PageDriveModel", "feed", "(JI)I"⟩, Cond.selects "PageDriveModel" ⟨"PageDriveModel", "feed", "(JI)I"⟩ ⟨"PageDriveModel", "feed", "(JI)I"⟩, Cond.code ⟨"PageDriveModel", "feed", "(JI)I"⟩ prog_6_method_6_code 5 (some .int), Cond.methodLink "PageDriveModel" 40 ⟨"PageDriveModel", "within", "(III)Z"⟩, Cond.static ⟨"PageDriveModel", "within", "(III)Z"⟩, Cond.code ⟨"PageDriveModel", "within", "(III)Z"⟩ prog_6_method_4_code 3 (some .boolean), Cond.methodLink "PageDriveModel" 44 ⟨"PageDriveModel", "fail", "(I)I"⟩, Cond.instanceMethod ⟨"PageDriveModel", "fail", "(I)I"⟩, Cond.code ⟨"PageDriveModel", "fail", "(I)I"⟩ prog_6_method_3_code 2 (some .int), Cond.constantLong "PageDriveModel" 51 (255), Cond.methodLink "PageDriveLaw" 76 ⟨"PageDriveModel", "append", "(II)I"⟩, Cond.instanceMethod ⟨"PageDriveModel", "append", "(II)I"⟩, Cond.selects "PageDriveModel" ⟨"PageDriveModel", "append", "(II)I"⟩ ⟨"PageDriveModel", "append", "(II)I"⟩, Cond.code ⟨"PageDriveModel", "append", "(II)I"⟩ prog_6_method_13_code 13 (some .int), Cond.methodLink "PageDriveModel" 58 ⟨"PageDriveModel", "noFile", "(I)Z"⟩, Cond.static ⟨"PageDriveModel", "noFile", "(I)Z"⟩]
def wG12 : List Cond := [Cond.code ⟨"PageDriveModel", "noFile", "(I)Z"⟩ prog_6_method_5_code 1 (some .boolean), Cond.methodLink "PageDriveModel" 62 ⟨"PageDriveModel", "look", "()I"⟩, Cond.instanceMethod ⟨"PageDriveModel", "look", "()I"⟩, Cond.code ⟨"PageDriveModel", "look", "()I"⟩ prog_6_method_8_code 3 (some .int), Cond.methodLink "PageDriveModel" 53 ⟨"PageDriveModel", "needed", "(I)I"⟩, Cond.static ⟨"PageDriveModel", "needed", "(I)I"⟩, Cond.code ⟨"PageDriveModel", "needed", "(I)I"⟩ prog_6_method_7_code 1 (some .int), Cond.methodLink "PageDriveModel" 66 ⟨"PageDriveModel", "fresh", "()I"⟩, Cond.instanceMethod ⟨"PageDriveModel", "fresh", "()I"⟩, Cond.code ⟨"PageDriveModel", "fresh", "()I"⟩ prog_6_method_9_code 2 (some .int), Cond.methodLink "PageDriveModel" 72 ⟨"PageDriveModel", "write", "(III)V"⟩, Cond.instanceMethod ⟨"PageDriveModel", "write", "(III)V"⟩, Cond.code ⟨"PageDriveModel", "write", "(III)V"⟩ prog_6_method_10_code 6 none, Cond.constantLong "PageDriveModel" 56 (-1), Cond.methodLink "PageDriveLaw" 79 ⟨"PageDriveModel", "cut", "(II)I"⟩, Cond.instanceMethod ⟨"PageDriveModel", "cut", "(II)I"⟩, Cond.selects "PageDriveModel" ⟨"PageDriveModel", "cut", "(II)I"⟩ ⟨"PageDriveModel", "cut", "(II)I"⟩, Cond.code ⟨"PageDriveModel", "cut", "(II)I"⟩ prog_6_method_15_code 4 (some .int), Cond.methodLink "PageDriveModel" 76 ⟨"PageDriveModel", "shorten", "(II)V"⟩, Cond.instanceMethod ⟨"PageDriveModel", "shorten", "(II)V"⟩, Cond.code ⟨"PageDriveModel", "shorten", "(II)V"⟩ prog_6_method_14_code 3 none, Cond.methodLink "PageDriveLaw" 83 ⟨"PageDriveModel", "remove", "(I)Z"⟩, Cond.instanceMethod ⟨"PageDriveModel", "remove", "(I)Z"⟩, Cond.selects "PageDriveModel" ⟨"PageDriveModel", "remove", "(I)Z"⟩ ⟨"PageDriveModel", "remove", "(I)Z"⟩, Cond.code ⟨"PageDriveModel", "remove", "(I)Z"⟩ prog_6_method_16_code 3 (some .boolean), Cond.methodLink "PageDriveLaw" 86 ⟨"PageDriveModel", "twin", "(II)I"⟩, Cond.instanceMethod ⟨"PageDriveModel", "twin", "(II)I"⟩, Cond.selects "PageDriveModel" ⟨"PageDriveModel", "twin", "(II)I"⟩ ⟨"PageDriveModel", "twin", "(II)I"⟩, Cond.code ⟨"PageDriveModel", "twin", "(II)I"⟩ prog_6_method_17_code 3 (some .int), Cond.methodLink "PageDriveModel" 80 ⟨"PageDriveModel", "become", "(II)V"⟩, Cond.instanceMethod ⟨"PageDriveModel", "become", "(II)V"⟩, Cond.code ⟨"PageDriveModel", "become", "(II)V"⟩ prog_6_method_12_code 4 none, Cond.methodLink "PageDriveLaw" 89 ⟨"PageDriveModel", "sync", "(I)I"⟩, Cond.instanceMethod ⟨"PageDriveModel", "sync", "(I)I"⟩, Cond.selects "PageDriveModel" ⟨"PageDriveModel", "sync", "(I)I"⟩ ⟨"PageDriveModel", "sync", "(I)I"⟩, Cond.code ⟨"PageDriveModel", "sync", "(I)I"⟩ prog_6_method_20_code 4 (some .int), Cond.methodLink "PageDriveModel" 83 ⟨"PageDriveModel", "isIn", "(II)Z"⟩, Cond.instanceMethod ⟨"PageDriveModel", "isIn", "(II)Z"⟩, Cond.code ⟨"PageDriveModel", "isIn", "(II)Z"⟩ prog_6_method_18_code 5 (some .boolean), Cond.methodLink "PageDriveModel" 87 ⟨"PageDriveModel", "settle", "(I)V"⟩]
def wG13 : List Cond := [Cond.instanceMethod ⟨"PageDriveModel", "settle", "(I)V"⟩, Cond.code ⟨"PageDriveModel", "settle", "(I)V"⟩ prog_6_method_19_code 2 none, Cond.methodLink "PageDriveLaw" 92 ⟨"PageDriveModel", "crash", "(II)I"⟩, Cond.instanceMethod ⟨"PageDriveModel", "crash", "(II)I"⟩, Cond.selects "PageDriveModel" ⟨"PageDriveModel", "crash", "(II)I"⟩ ⟨"PageDriveModel", "crash", "(II)I"⟩, Cond.code ⟨"PageDriveModel", "crash", "(II)I"⟩ prog_6_method_22_code 3 (some .int), Cond.methodLink "PageDriveModel" 91 ⟨"PageDriveModel", "breaks", "(II)V"⟩, Cond.instanceMethod ⟨"PageDriveModel", "breaks", "(II)V"⟩, Cond.code ⟨"PageDriveModel", "breaks", "(II)V"⟩ prog_6_method_21_code 3 none, Cond.methodLink "PageDriveLaw" 97 ⟨"PageDriveModel", "crashAll", "(J)I"⟩, Cond.instanceMethod ⟨"PageDriveModel", "crashAll", "(J)I"⟩, Cond.selects "PageDriveModel" ⟨"PageDriveModel", "crashAll", "(J)I"⟩ ⟨"PageDriveModel", "crashAll", "(J)I"⟩, Cond.code ⟨"PageDriveModel", "crashAll", "(J)I"⟩ prog_6_method_24_code 10 (some .int), Cond.constantLong "PageDriveModel" 94 (6364136223846793005), Cond.constantLong "PageDriveModel" 96 (1442695040888963407), Cond.constantLong "PageDriveModel" 98 (1048576), Cond.constantLong "PageDriveModel" 100 (2), Cond.methodLink "PageDriveModel" 102 ⟨"PageDriveModel", "present", "()I"⟩, Cond.instanceMethod ⟨"PageDriveModel", "present", "()I"⟩, Cond.code ⟨"PageDriveModel", "present", "()I"⟩ prog_6_method_23_code 3 (some .int), Cond.methodLink "PageDriveLaw" 100 ⟨"PageDriveModel", "file", "(II)I"⟩, Cond.instanceMethod ⟨"PageDriveModel", "file", "(II)I"⟩, Cond.selects "PageDriveModel" ⟨"PageDriveModel", "file", "(II)I"⟩ ⟨"PageDriveModel", "file", "(II)I"⟩, Cond.code ⟨"PageDriveModel", "file", "(II)I"⟩ prog_6_method_26_code 3 (some .int), Cond.methodLink "PageDriveModel" 105 ⟨"PageDriveModel", "sharedPages", "(I)I"⟩, Cond.instanceMethod ⟨"PageDriveModel", "sharedPages", "(I)I"⟩, Cond.code ⟨"PageDriveModel", "sharedPages", "(I)I"⟩ prog_6_method_25_code 4 (some .int), Cond.methodLink "PageDriveLaw" 104 ⟨"PageDriveModel", "byteAt", "(IZI)I"⟩, Cond.instanceMethod ⟨"PageDriveModel", "byteAt", "(IZI)I"⟩, Cond.selects "PageDriveModel" ⟨"PageDriveModel", "byteAt", "(IZI)I"⟩ ⟨"PageDriveModel", "byteAt", "(IZI)I"⟩, Cond.code ⟨"PageDriveModel", "byteAt", "(IZI)I"⟩ prog_6_method_27_code 5 (some .int), Cond.methodLink "PageDriveModel" 108 ⟨"PageDriveModel", "read", "(II)I"⟩, Cond.instanceMethod ⟨"PageDriveModel", "read", "(II)I"⟩, Cond.code ⟨"PageDriveModel", "read", "(II)I"⟩ prog_6_method_11_code 3 (some .int), Cond.methodLink "PageDriveLaw" 108 ⟨"PageDriveModel", "count", "(I)I"⟩, Cond.instanceMethod ⟨"PageDriveModel", "count", "(I)I"⟩, Cond.selects "PageDriveModel" ⟨"PageDriveModel", "count", "(I)I"⟩ ⟨"PageDriveModel", "count", "(I)I"⟩, Cond.code ⟨"PageDriveModel", "count", "(I)I"⟩ prog_6_method_28_code 2 (some .int), Cond.constantLong "PageDriveLaw" 63 (4294967295), Cond.sameMethod "java/lang/Throwable" "java/lang/Throwable" "fillInStackTrace" "(I)Ljava/lang/Throwable;"]
def wG14 : List Cond := [Cond.selects "PageDrive" ⟨"PageDrive", "fall", "(LPageDrive$Entry;I)V"⟩ ⟨"PageDrive", "fall", "(LPageDrive$Entry;I)V"⟩, Cond.selects "PageDrive" ⟨"PageDrive", "become", "(LPageDrive$Content;LPageDrive$Content;)V"⟩ ⟨"PageDrive", "become", "(LPageDrive$Content;LPageDrive$Content;)V"⟩, Cond.selects "PageDrive" ⟨"PageDrive", "shorten", "(LPageDrive$Content;I)V"⟩ ⟨"PageDrive", "shorten", "(LPageDrive$Content;I)V"⟩, Cond.selects "PageDrive" ⟨"PageDrive", "settle", "(LPageDrive$Entry;)V"⟩ ⟨"PageDrive", "settle", "(LPageDrive$Entry;)V"⟩, Cond.selects "PageDrive" ⟨"PageDrive", "filesThere", "()I"⟩ ⟨"PageDrive", "filesThere", "()I"⟩, Cond.selects "java/lang/Throwable" ⟨"java/lang/Throwable", "fillInStackTrace", "(I)Ljava/lang/Throwable;"⟩ ⟨"java/lang/Throwable", "fillInStackTrace", "(I)Ljava/lang/Throwable;"⟩, Cond.selects "PageDrive" ⟨"PageDrive", "hasRoom", "(LPageDrive$Content;I)Z"⟩ ⟨"PageDrive", "hasRoom", "(LPageDrive$Content;I)Z"⟩, Cond.selects "PageDrive" ⟨"PageDrive", "mustCopyLast", "(LPageDrive$Content;I)Z"⟩ ⟨"PageDrive", "mustCopyLast", "(LPageDrive$Content;I)Z"⟩, Cond.selects "PageDrive" ⟨"PageDrive", "grow", "(LPageDrive$Content;I)V"⟩ ⟨"PageDrive", "grow", "(LPageDrive$Content;I)V"⟩, Cond.selects "PageDrive" ⟨"PageDrive", "writeTape", "(LPageDrive$Content;III)V"⟩ ⟨"PageDrive", "writeTape", "(LPageDrive$Content;III)V"⟩, Cond.selects "PageDrive" ⟨"PageDrive", "sharedPages", "(LPageDrive$Content;)I"⟩ ⟨"PageDrive", "sharedPages", "(LPageDrive$Content;)I"⟩, Cond.selects "PageDriveModel" ⟨"PageDriveModel", "fail", "(I)I"⟩ ⟨"PageDriveModel", "fail", "(I)I"⟩, Cond.selects "PageDriveModel" ⟨"PageDriveModel", "look", "()I"⟩ ⟨"PageDriveModel", "look", "()I"⟩, Cond.selects "PageDriveModel" ⟨"PageDriveModel", "fresh", "()I"⟩ ⟨"PageDriveModel", "fresh", "()I"⟩, Cond.selects "PageDriveModel" ⟨"PageDriveModel", "write", "(III)V"⟩ ⟨"PageDriveModel", "write", "(III)V"⟩, Cond.selects "PageDriveModel" ⟨"PageDriveModel", "shorten", "(II)V"⟩ ⟨"PageDriveModel", "shorten", "(II)V"⟩, Cond.selects "PageDriveModel" ⟨"PageDriveModel", "become", "(II)V"⟩ ⟨"PageDriveModel", "become", "(II)V"⟩, Cond.selects "PageDriveModel" ⟨"PageDriveModel", "isIn", "(II)Z"⟩ ⟨"PageDriveModel", "isIn", "(II)Z"⟩, Cond.selects "PageDriveModel" ⟨"PageDriveModel", "settle", "(I)V"⟩ ⟨"PageDriveModel", "settle", "(I)V"⟩, Cond.selects "PageDriveModel" ⟨"PageDriveModel", "breaks", "(II)V"⟩ ⟨"PageDriveModel", "breaks", "(II)V"⟩, Cond.selects "PageDriveModel" ⟨"PageDriveModel", "present", "()I"⟩ ⟨"PageDriveModel", "present", "()I"⟩, Cond.selects "PageDriveModel" ⟨"PageDriveModel", "sharedPages", "(I)I"⟩ ⟨"PageDriveModel", "sharedPages", "(I)I"⟩, Cond.selects "PageDriveModel" ⟨"PageDriveModel", "read", "(II)I"⟩ ⟨"PageDriveModel", "read", "(II)I"⟩]
def wsG : List Cond := wG1 ++ (wG2 ++ (wG3 ++ (wG4 ++ (wG5 ++ (wG6 ++ (wG7 ++ (wG8 ++ (wG9 ++ (wG10 ++ (wG11 ++ (wG12 ++ (wG13 ++ (wG14)))))))))))))
theorem wG_m1 {w : Cond} (h : w ∈ wG1) : w ∈ wsG := List.mem_append_left _ h
theorem wG_m2 {w : Cond} (h : w ∈ wG2) : w ∈ wsG := List.mem_append_right _ (List.mem_append_left _ h)
theorem wG_m3 {w : Cond} (h : w ∈ wG3) : w ∈ wsG := List.mem_append_right _ (List.mem_append_right _ (List.mem_append_left _ h))
theorem wG_m4 {w : Cond} (h : w ∈ wG4) : w ∈ wsG := List.mem_append_right _ (List.mem_append_right _ (List.mem_append_right _ (List.mem_append_left _ h)))
theorem wG_m5 {w : Cond} (h : w ∈ wG5) : w ∈ wsG := List.mem_append_right _ (List.mem_append_right _ (List.mem_append_right _ (List.mem_append_right _ (List.mem_append_left _ h))))
theorem wG_m6 {w : Cond} (h : w ∈ wG6) : w ∈ wsG := List.mem_append_right _ (List.mem_append_right _ (List.mem_append_right _ (List.mem_append_right _ (List.mem_append_right _ (List.mem_append_left _ h)))))
theorem wG_m7 {w : Cond} (h : w ∈ wG7) : w ∈ wsG := List.mem_append_right _ (List.mem_append_right _ (List.mem_append_right _ (List.mem_append_right _ (List.mem_append_right _ (List.mem_append_right _ (List.mem_append_left _ h))))))
theorem wG_m8 {w : Cond} (h : w ∈ wG8) : w ∈ wsG := List.mem_append_right _ (List.mem_append_right _ (List.mem_append_right _ (List.mem_append_right _ (List.mem_append_right _ (List.mem_append_right _ (List.mem_append_right _ (List.mem_append_left _ h)))))))
theorem wG_m9 {w : Cond} (h : w ∈ wG9) : w ∈ wsG := List.mem_append_right _ (List.mem_append_right _ (List.mem_append_right _ (List.mem_append_right _ (List.mem_append_right _ (List.mem_append_right _ (List.mem_append_right _ (List.mem_append_right _ (List.mem_append_left _ h))))))))
theorem wG_m10 {w : Cond} (h : w ∈ wG10) : w ∈ wsG := List.mem_append_right _ (List.mem_append_right _ (List.mem_append_right _ (List.mem_append_right _ (List.mem_append_right _ (List.mem_append_right _ (List.mem_append_right _ (List.mem_append_right _ (List.mem_append_right _ (List.mem_append_left _ h)))))))))
theorem wG_m11 {w : Cond} (h : w ∈ wG11) : w ∈ wsG := List.mem_append_right _ (List.mem_append_right _ (List.mem_append_right _ (List.mem_append_right _ (List.mem_append_right _ (List.mem_append_right _ (List.mem_append_right _ (List.mem_append_right _ (List.mem_append_right _ (List.mem_append_right _ (List.mem_append_left _ h))))))))))
theorem wG_m12 {w : Cond} (h : w ∈ wG12) : w ∈ wsG := List.mem_append_right _ (List.mem_append_right _ (List.mem_append_right _ (List.mem_append_right _ (List.mem_append_right _ (List.mem_append_right _ (List.mem_append_right _ (List.mem_append_right _ (List.mem_append_right _ (List.mem_append_right _ (List.mem_append_right _ (List.mem_append_left _ h)))))))))))
theorem wG_m13 {w : Cond} (h : w ∈ wG13) : w ∈ wsG := List.mem_append_right _ (List.mem_append_right _ (List.mem_append_right _ (List.mem_append_right _ (List.mem_append_right _ (List.mem_append_right _ (List.mem_append_right _ (List.mem_append_right _ (List.mem_append_right _ (List.mem_append_right _ (List.mem_append_right _ (List.mem_append_right _ (List.mem_append_left _ h))))))))))))
theorem wG_m14 {w : Cond} (h : w ∈ wG14) : w ∈ wsG := List.mem_append_right _ (List.mem_append_right _ (List.mem_append_right _ (List.mem_append_right _ (List.mem_append_right _ (List.mem_append_right _ (List.mem_append_right _ (List.mem_append_right _ (List.mem_append_right _ (List.mem_append_right _ (List.mem_append_right _ (List.mem_append_right _ (List.mem_append_right _ (h)))))))))))))
theorem wG_g1 : wG1.all goodWord = true := by decide +kernel
theorem wG_g2 : wG2.all goodWord = true := by decide +kernel
theorem wG_g3 : wG3.all goodWord = true := by decide +kernel
theorem wG_g4 : wG4.all goodWord = true := by decide +kernel
theorem wG_g5 : wG5.all goodWord = true := by decide +kernel
theorem wG_g6 : wG6.all goodWord = true := by decide +kernel
theorem wG_g7 : wG7.all goodWord = true := by decide +kernel
theorem wG_g8 : wG8.all goodWord = true := by decide +kernel
theorem wG_g9 : wG9.all goodWord = true := by decide +kernel
theorem wG_g10 : wG10.all goodWord = true := by decide +kernel
theorem wG_g11 : wG11.all goodWord = true := by decide +kernel
theorem wG_g12 : wG12.all goodWord = true := by decide +kernel
theorem wG_g13 : wG13.all goodWord = true := by decide +kernel
theorem wG_g14 : wG14.all goodWord = true := by decide +kernel
theorem wsG_good : ∀ w ∈ wsG, goodWord w = true := by
  intro w h
  unfold wsG at h
  rcases List.mem_append.mp h with h | h
  · exact List.all_eq_true.mp wG_g1 w h
  rcases List.mem_append.mp h with h | h
  · exact List.all_eq_true.mp wG_g2 w h
  rcases List.mem_append.mp h with h | h
  · exact List.all_eq_true.mp wG_g3 w h
  rcases List.mem_append.mp h with h | h
  · exact List.all_eq_true.mp wG_g4 w h
  rcases List.mem_append.mp h with h | h
  · exact List.all_eq_true.mp wG_g5 w h
  rcases List.mem_append.mp h with h | h
  · exact List.all_eq_true.mp wG_g6 w h
  rcases List.mem_append.mp h with h | h
  · exact List.all_eq_true.mp wG_g7 w h
  rcases List.mem_append.mp h with h | h
  · exact List.all_eq_true.mp wG_g8 w h
  rcases List.mem_append.mp h with h | h
  · exact List.all_eq_true.mp wG_g9 w h
  rcases List.mem_append.mp h with h | h
  · exact List.all_eq_true.mp wG_g10 w h
  rcases List.mem_append.mp h with h | h
  · exact List.all_eq_true.mp wG_g11 w h
  rcases List.mem_append.mp h with h | h
  · exact List.all_eq_true.mp wG_g12 w h
  rcases List.mem_append.mp h with h | h
  · exact List.all_eq_true.mp wG_g13 w h
  exact List.all_eq_true.mp wG_g14 w h
abbrev b_PD_init : ByteArray := prog_1_method_1_code
abbrev y_PD_init : MethodName := ⟨"PageDrive", "<init>", "(I)V"⟩
abbrev w_PD_init : List Cond := Cond.code y_PD_init b_PD_init 3 none :: wsG
abbrev b_PD_feed : ByteArray := prog_1_method_2_code
abbrev y_PD_feed : MethodName := ⟨"PageDrive", "feed", "(JI)I"⟩
abbrev w_PD_feed : List Cond := Cond.code y_PD_feed b_PD_feed 5 (some .int) :: wsG
abbrev b_PD_append : ByteArray := prog_1_method_3_code
abbrev y_PD_append : MethodName := ⟨"PageDrive", "append", "(II)I"⟩
abbrev w_PD_append : List Cond := Cond.code y_PD_append b_PD_append 7 (some .int) :: wsG
abbrev b_PD_cut : ByteArray := prog_1_method_4_code
abbrev y_PD_cut : MethodName := ⟨"PageDrive", "cut", "(II)I"⟩
abbrev w_PD_cut : List Cond := Cond.code y_PD_cut b_PD_cut 5 (some .int) :: wsG
abbrev b_PD_remove : ByteArray := prog_1_method_5_code
abbrev y_PD_remove : MethodName := ⟨"PageDrive", "remove", "(I)Z"⟩
abbrev w_PD_remove : List Cond := Cond.code y_PD_remove b_PD_remove 4 (some .boolean) :: wsG
abbrev b_PD_twin : ByteArray := prog_1_method_6_code
abbrev y_PD_twin : MethodName := ⟨"PageDrive", "twin", "(II)I"⟩
abbrev w_PD_twin : List Cond := Cond.code y_PD_twin b_PD_twin 4 (some .int) :: wsG
abbrev b_PD_sync : ByteArray := prog_1_method_7_code
abbrev y_PD_sync : MethodName := ⟨"PageDrive", "sync", "(I)I"⟩
abbrev w_PD_sync : List Cond := Cond.code y_PD_sync b_PD_sync 4 (some .int) :: wsG
abbrev b_PD_crash : ByteArray := prog_1_method_8_code
abbrev y_PD_crash : MethodName := ⟨"PageDrive", "crash", "(II)I"⟩
abbrev w_PD_crash : List Cond := Cond.code y_PD_crash b_PD_crash 3 (some .int) :: wsG
abbrev b_PD_crashAll : ByteArray := prog_1_method_9_code
abbrev y_PD_crashAll : MethodName := ⟨"PageDrive", "crashAll", "(J)I"⟩
abbrev w_PD_crashAll : List Cond := Cond.code y_PD_crashAll b_PD_crashAll 6 (some .int) :: wsG
abbrev b_PD_file : ByteArray := prog_1_method_10_code
abbrev y_PD_file : MethodName := ⟨"PageDrive", "file", "(II)I"⟩
abbrev w_PD_file : List Cond := Cond.code y_PD_file b_PD_file 4 (some .int) :: wsG
abbrev b_PD_byteAt : ByteArray := prog_1_method_11_code
abbrev y_PD_byteAt : MethodName := ⟨"PageDrive", "byteAt", "(IZI)I"⟩
abbrev w_PD_byteAt : List Cond := Cond.code y_PD_byteAt b_PD_byteAt 5 (some .int) :: wsG
abbrev b_PD_count : ByteArray := prog_1_method_12_code
abbrev y_PD_count : MethodName := ⟨"PageDrive", "count", "(I)I"⟩
abbrev w_PD_count : List Cond := Cond.code y_PD_count b_PD_count 2 (some .int) :: wsG
abbrev b_PD_isFile : ByteArray := prog_1_method_13_code
abbrev y_PD_isFile : MethodName := ⟨"PageDrive", "isFile", "(I)Z"⟩
abbrev w_PD_isFile : List Cond := Cond.code y_PD_isFile b_PD_isFile 1 (some .boolean) :: wsG
abbrev b_PD_pagesFor : ByteArray := prog_1_method_14_code
abbrev y_PD_pagesFor : MethodName := ⟨"PageDrive", "pagesFor", "(I)I"⟩
abbrev w_PD_pagesFor : List Cond := Cond.code y_PD_pagesFor b_PD_pagesFor 1 (some .int) :: wsG
abbrev b_PD_filesThere : ByteArray := prog_1_method_15_code
abbrev y_PD_filesThere : MethodName := ⟨"PageDrive", "filesThere", "()I"⟩
abbrev w_PD_filesThere : List Cond := Cond.code y_PD_filesThere b_PD_filesThere 3 (some .int) :: wsG
abbrev b_PD_hasRoom : ByteArray := prog_1_method_16_code
abbrev y_PD_hasRoom : MethodName := ⟨"PageDrive", "hasRoom", "(LPageDrive$Content;I)Z"⟩
abbrev w_PD_hasRoom : List Cond := Cond.code y_PD_hasRoom b_PD_hasRoom 4 (some .boolean) :: wsG
abbrev b_PD_mustCopyLast : ByteArray := prog_1_method_17_code
abbrev y_PD_mustCopyLast : MethodName := ⟨"PageDrive", "mustCopyLast", "(LPageDrive$Content;I)Z"⟩
abbrev w_PD_mustCopyLast : List Cond := Cond.code y_PD_mustCopyLast b_PD_mustCopyLast 3 (some .boolean) :: wsG
abbrev b_PD_grow : ByteArray := prog_1_method_18_code
abbrev y_PD_grow : MethodName := ⟨"PageDrive", "grow", "(LPageDrive$Content;I)V"⟩
abbrev w_PD_grow : List Cond := Cond.code y_PD_grow b_PD_grow 4 none :: wsG
abbrev b_PD_writeTape : ByteArray := prog_1_method_19_code
abbrev y_PD_writeTape : MethodName := ⟨"PageDrive", "writeTape", "(LPageDrive$Content;III)V"⟩
abbrev w_PD_writeTape : List Cond := Cond.code y_PD_writeTape b_PD_writeTape 8 none :: wsG
abbrev b_PD_shorten : ByteArray := prog_1_method_20_code
abbrev y_PD_shorten : MethodName := ⟨"PageDrive", "shorten", "(LPageDrive$Content;I)V"⟩
abbrev w_PD_shorten : List Cond := Cond.code y_PD_shorten b_PD_shorten 4 none :: wsG
abbrev b_PD_become : ByteArray := prog_1_method_21_code
abbrev y_PD_become : MethodName := ⟨"PageDrive", "become", "(LPageDrive$Content;LPageDrive$Content;)V"⟩
abbrev w_PD_become : List Cond := Cond.code y_PD_become b_PD_become 5 none :: wsG
abbrev b_PD_settle : ByteArray := prog_1_method_22_code
abbrev y_PD_settle : MethodName := ⟨"PageDrive", "settle", "(LPageDrive$Entry;)V"⟩
abbrev w_PD_settle : List Cond := Cond.code y_PD_settle b_PD_settle 2 none :: wsG
abbrev b_PD_fall : ByteArray := prog_1_method_23_code
abbrev y_PD_fall : MethodName := ⟨"PageDrive", "fall", "(LPageDrive$Entry;I)V"⟩
abbrev w_PD_fall : List Cond := Cond.code y_PD_fall b_PD_fall 3 none :: wsG
abbrev b_PD_keepOf : ByteArray := prog_1_method_24_code
abbrev y_PD_keepOf : MethodName := ⟨"PageDrive", "keepOf", "(JLPageDrive$Entry;)I"⟩
abbrev w_PD_keepOf : List Cond := Cond.code y_PD_keepOf b_PD_keepOf 5 (some .int) :: wsG
abbrev b_PD_pagesNotIn : ByteArray := prog_1_method_25_code
abbrev y_PD_pagesNotIn : MethodName := ⟨"PageDrive", "pagesNotIn", "(LPageDrive$Content;LPageDrive$Content;)I"⟩
abbrev w_PD_pagesNotIn : List Cond := Cond.code y_PD_pagesNotIn b_PD_pagesNotIn 5 (some .int) :: wsG
abbrev b_PD_sharedPages : ByteArray := prog_1_method_26_code
abbrev y_PD_sharedPages : MethodName := ⟨"PageDrive", "sharedPages", "(LPageDrive$Content;)I"⟩
abbrev w_PD_sharedPages : List Cond := Cond.code y_PD_sharedPages b_PD_sharedPages 4 (some .int) :: wsG
abbrev b_MO_init : ByteArray := prog_6_method_1_code
abbrev y_MO_init : MethodName := ⟨"PageDriveModel", "<init>", "(I)V"⟩
abbrev w_MO_init : List Cond := Cond.code y_MO_init b_MO_init 2 none :: wsG
abbrev b_MO_thrown : ByteArray := prog_6_method_2_code
abbrev y_MO_thrown : MethodName := ⟨"PageDriveModel", "thrown", "()I"⟩
abbrev w_MO_thrown : List Cond := Cond.code y_MO_thrown b_MO_thrown 1 (some .int) :: wsG
abbrev b_MO_fail : ByteArray := prog_6_method_3_code
abbrev y_MO_fail : MethodName := ⟨"PageDriveModel", "fail", "(I)I"⟩
abbrev w_MO_fail : List Cond := Cond.code y_MO_fail b_MO_fail 2 (some .int) :: wsG
abbrev b_MO_within : ByteArray := prog_6_method_4_code
abbrev y_MO_within : MethodName := ⟨"PageDriveModel", "within", "(III)Z"⟩
abbrev w_MO_within : List Cond := Cond.code y_MO_within b_MO_within 3 (some .boolean) :: wsG
abbrev b_MO_noFile : ByteArray := prog_6_method_5_code
abbrev y_MO_noFile : MethodName := ⟨"PageDriveModel", "noFile", "(I)Z"⟩
abbrev w_MO_noFile : List Cond := Cond.code y_MO_noFile b_MO_noFile 1 (some .boolean) :: wsG
abbrev b_MO_feed : ByteArray := prog_6_method_6_code
abbrev y_MO_feed : MethodName := ⟨"PageDriveModel", "feed", "(JI)I"⟩
abbrev w_MO_feed : List Cond := Cond.code y_MO_feed b_MO_feed 5 (some .int) :: wsG
abbrev b_MO_needed : ByteArray := prog_6_method_7_code
abbrev y_MO_needed : MethodName := ⟨"PageDriveModel", "needed", "(I)I"⟩
abbrev w_MO_needed : List Cond := Cond.code y_MO_needed b_MO_needed 1 (some .int) :: wsG
abbrev b_MO_look : ByteArray := prog_6_method_8_code
abbrev y_MO_look : MethodName := ⟨"PageDriveModel", "look", "()I"⟩
abbrev w_MO_look : List Cond := Cond.code y_MO_look b_MO_look 3 (some .int) :: wsG
abbrev b_MO_fresh : ByteArray := prog_6_method_9_code
abbrev y_MO_fresh : MethodName := ⟨"PageDriveModel", "fresh", "()I"⟩
abbrev w_MO_fresh : List Cond := Cond.code y_MO_fresh b_MO_fresh 2 (some .int) :: wsG
abbrev b_MO_write : ByteArray := prog_6_method_10_code
abbrev y_MO_write : MethodName := ⟨"PageDriveModel", "write", "(III)V"⟩
abbrev w_MO_write : List Cond := Cond.code y_MO_write b_MO_write 6 none :: wsG
abbrev b_MO_read : ByteArray := prog_6_method_11_code
abbrev y_MO_read : MethodName := ⟨"PageDriveModel", "read", "(II)I"⟩
abbrev w_MO_read : List Cond := Cond.code y_MO_read b_MO_read 3 (some .int) :: wsG
abbrev b_MO_become : ByteArray := prog_6_method_12_code
abbrev y_MO_become : MethodName := ⟨"PageDriveModel", "become", "(II)V"⟩
abbrev w_MO_become : List Cond := Cond.code y_MO_become b_MO_become 4 none :: wsG
abbrev b_MO_append : ByteArray := prog_6_method_13_code
abbrev y_MO_append : MethodName := ⟨"PageDriveModel", "append", "(II)I"⟩
abbrev w_MO_append : List Cond := Cond.code y_MO_append b_MO_append 13 (some .int) :: wsG
abbrev b_MO_shorten : ByteArray := prog_6_method_14_code
abbrev y_MO_shorten : MethodName := ⟨"PageDriveModel", "shorten", "(II)V"⟩
abbrev w_MO_shorten : List Cond := Cond.code y_MO_shorten b_MO_shorten 3 none :: wsG
abbrev b_MO_cut : ByteArray := prog_6_method_15_code
abbrev y_MO_cut : MethodName := ⟨"PageDriveModel", "cut", "(II)I"⟩
abbrev w_MO_cut : List Cond := Cond.code y_MO_cut b_MO_cut 4 (some .int) :: wsG
abbrev b_MO_remove : ByteArray := prog_6_method_16_code
abbrev y_MO_remove : MethodName := ⟨"PageDriveModel", "remove", "(I)Z"⟩
abbrev w_MO_remove : List Cond := Cond.code y_MO_remove b_MO_remove 3 (some .boolean) :: wsG
abbrev b_MO_twin : ByteArray := prog_6_method_17_code
abbrev y_MO_twin : MethodName := ⟨"PageDriveModel", "twin", "(II)I"⟩
abbrev w_MO_twin : List Cond := Cond.code y_MO_twin b_MO_twin 3 (some .int) :: wsG
abbrev b_MO_isIn : ByteArray := prog_6_method_18_code
abbrev y_MO_isIn : MethodName := ⟨"PageDriveModel", "isIn", "(II)Z"⟩
abbrev w_MO_isIn : List Cond := Cond.code y_MO_isIn b_MO_isIn 5 (some .boolean) :: wsG
abbrev b_MO_settle : ByteArray := prog_6_method_19_code
abbrev y_MO_settle : MethodName := ⟨"PageDriveModel", "settle", "(I)V"⟩
abbrev w_MO_settle : List Cond := Cond.code y_MO_settle b_MO_settle 2 none :: wsG
abbrev b_MO_sync : ByteArray := prog_6_method_20_code
abbrev y_MO_sync : MethodName := ⟨"PageDriveModel", "sync", "(I)I"⟩
abbrev w_MO_sync : List Cond := Cond.code y_MO_sync b_MO_sync 4 (some .int) :: wsG
abbrev b_MO_breaks : ByteArray := prog_6_method_21_code
abbrev y_MO_breaks : MethodName := ⟨"PageDriveModel", "breaks", "(II)V"⟩
abbrev w_MO_breaks : List Cond := Cond.code y_MO_breaks b_MO_breaks 3 none :: wsG
abbrev b_MO_crash : ByteArray := prog_6_method_22_code
abbrev y_MO_crash : MethodName := ⟨"PageDriveModel", "crash", "(II)I"⟩
abbrev w_MO_crash : List Cond := Cond.code y_MO_crash b_MO_crash 3 (some .int) :: wsG
abbrev b_MO_present : ByteArray := prog_6_method_23_code
abbrev y_MO_present : MethodName := ⟨"PageDriveModel", "present", "()I"⟩
abbrev w_MO_present : List Cond := Cond.code y_MO_present b_MO_present 3 (some .int) :: wsG
abbrev b_MO_crashAll : ByteArray := prog_6_method_24_code
abbrev y_MO_crashAll : MethodName := ⟨"PageDriveModel", "crashAll", "(J)I"⟩
abbrev w_MO_crashAll : List Cond := Cond.code y_MO_crashAll b_MO_crashAll 10 (some .int) :: wsG
abbrev b_MO_sharedPages : ByteArray := prog_6_method_25_code
abbrev y_MO_sharedPages : MethodName := ⟨"PageDriveModel", "sharedPages", "(I)I"⟩
abbrev w_MO_sharedPages : List Cond := Cond.code y_MO_sharedPages b_MO_sharedPages 4 (some .int) :: wsG
abbrev b_MO_file : ByteArray := prog_6_method_26_code
abbrev y_MO_file : MethodName := ⟨"PageDriveModel", "file", "(II)I"⟩
abbrev w_MO_file : List Cond := Cond.code y_MO_file b_MO_file 3 (some .int) :: wsG
abbrev b_MO_byteAt : ByteArray := prog_6_method_27_code
abbrev y_MO_byteAt : MethodName := ⟨"PageDriveModel", "byteAt", "(IZI)I"⟩
abbrev w_MO_byteAt : List Cond := Cond.code y_MO_byteAt b_MO_byteAt 5 (some .int) :: wsG
abbrev b_MO_count : ByteArray := prog_6_method_28_code
abbrev y_MO_count : MethodName := ⟨"PageDriveModel", "count", "(I)I"⟩
abbrev w_MO_count : List Cond := Cond.code y_MO_count b_MO_count 2 (some .int) :: wsG
abbrev b_CO_init : ByteArray := prog_2_method_1_code
abbrev y_CO_init : MethodName := ⟨"PageDrive$Content", "<init>", "()V"⟩
abbrev w_CO_init : List Cond := Cond.code y_CO_init b_CO_init 1 none :: wsG
abbrev b_CO_placeOf : ByteArray := prog_2_method_2_code
abbrev y_CO_placeOf : MethodName := ⟨"PageDrive$Content", "placeOf", "(I)I"⟩
abbrev w_CO_placeOf : List Cond := Cond.code y_CO_placeOf b_CO_placeOf 2 (some .int) :: wsG
abbrev b_EN_init : ByteArray := prog_3_method_1_code
abbrev y_EN_init : MethodName := ⟨"PageDrive$Entry", "<init>", "()V"⟩
abbrev w_EN_init : List Cond := Cond.code y_EN_init b_EN_init 1 none :: wsG
abbrev b_PO_init : ByteArray := prog_4_method_1_code
abbrev y_PO_init : MethodName := ⟨"PageDrive$Pool", "<init>", "(I)V"⟩
abbrev w_PO_init : List Cond := Cond.code y_PO_init b_PO_init 3 none :: wsG
abbrev b_PO_isShared : ByteArray := prog_4_method_2_code
abbrev y_PO_isShared : MethodName := ⟨"PageDrive$Pool", "isShared", "(I)Z"⟩
abbrev w_PO_isShared : List Cond := Cond.code y_PO_isShared b_PO_isShared 2 (some .boolean) :: wsG
abbrev b_PO_take : ByteArray := prog_4_method_3_code
abbrev y_PO_take : MethodName := ⟨"PageDrive$Pool", "take", "()I"⟩
abbrev w_PO_take : List Cond := Cond.code y_PO_take b_PO_take 2 (some .int) :: wsG
abbrev b_PO_join : ByteArray := prog_4_method_4_code
abbrev y_PO_join : MethodName := ⟨"PageDrive$Pool", "join", "(I)V"⟩
abbrev w_PO_join : List Cond := Cond.code y_PO_join b_PO_join 2 none :: wsG
abbrev b_PO_leave : ByteArray := prog_4_method_5_code
abbrev y_PO_leave : MethodName := ⟨"PageDrive$Pool", "leave", "(I)V"⟩
abbrev w_PO_leave : List Cond := Cond.code y_PO_leave b_PO_leave 2 none :: wsG
abbrev b_PO_exchangeForCopy : ByteArray := prog_4_method_6_code
abbrev y_PO_exchangeForCopy : MethodName := ⟨"PageDrive$Pool", "exchangeForCopy", "(I)I"⟩
abbrev w_PO_exchangeForCopy : List Cond := Cond.code y_PO_exchangeForCopy b_PO_exchangeForCopy 3 (some .int) :: wsG
abbrev b_LA_cell : ByteArray := method_2_code
abbrev y_LA_cell : MethodName := ⟨"PageDriveLaw", "cell", "([II)I"⟩
abbrev w_LA_cell : List Cond := Cond.code y_LA_cell b_LA_cell 2 (some .int) :: wsG
abbrev b_LA_feed : ByteArray := method_3_code
abbrev y_LA_feed : MethodName := ⟨"PageDriveLaw", "feed", "(LPageDrive;JI[J)I"⟩
abbrev b_LA_append : ByteArray := method_4_code
abbrev y_LA_append : MethodName := ⟨"PageDriveLaw", "append", "(LPageDrive;II[J)I"⟩
abbrev b_LA_cut : ByteArray := method_5_code
abbrev y_LA_cut : MethodName := ⟨"PageDriveLaw", "cut", "(LPageDrive;II[J)I"⟩
abbrev b_LA_remove : ByteArray := method_6_code
abbrev y_LA_remove : MethodName := ⟨"PageDriveLaw", "remove", "(LPageDrive;I[J)I"⟩
abbrev b_LA_twin : ByteArray := method_7_code
abbrev y_LA_twin : MethodName := ⟨"PageDriveLaw", "twin", "(LPageDrive;II[J)I"⟩
abbrev b_LA_sync : ByteArray := method_8_code
abbrev y_LA_sync : MethodName := ⟨"PageDriveLaw", "sync", "(LPageDrive;I[J)I"⟩
abbrev b_LA_crash : ByteArray := method_9_code
abbrev y_LA_crash : MethodName := ⟨"PageDriveLaw", "crash", "(LPageDrive;II[J)I"⟩
abbrev b_LA_file : ByteArray := method_10_code
abbrev y_LA_file : MethodName := ⟨"PageDriveLaw", "file", "(LPageDrive;II[J)I"⟩
abbrev b_LA_byteAt : ByteArray := method_11_code
abbrev y_LA_byteAt : MethodName := ⟨"PageDriveLaw", "byteAt", "(LPageDrive;IZI[J)I"⟩
end
section
theorem d_PD_init_0 : decode b_PD_init 0 = .ok (.aload_n 0, 1) := by decide +kernel
theorem d_PD_init_1 : decode b_PD_init 1 = .ok (.invokespecial 1, 3) := by decide +kernel
theorem d_PD_init_4 : decode b_PD_init 4 = .ok (.aload_n 0, 1) := by decide +kernel
theorem d_PD_init_5 : decode b_PD_init 5 = .ok (.new 7, 3) := by decide +kernel
theorem d_PD_init_8 : decode b_PD_init 8 = .ok (.dup, 1) := by decide +kernel
theorem d_PD_init_9 : decode b_PD_init 9 = .ok (.iconst 4, 1) := by decide +kernel
theorem d_PD_init_10 : decode b_PD_init 10 = .ok (.sipush 1024, 3) := by decide +kernel
theorem d_PD_init_13 : decode b_PD_init 13 = .ok (.iload_n 1, 1) := by decide +kernel
theorem d_PD_init_14 : decode b_PD_init 14 = .ok (.invokestatic 11, 3) := by decide +kernel
theorem d_PD_init_17 : decode b_PD_init 17 = .ok (.invokestatic 17, 3) := by decide +kernel
theorem d_PD_init_20 : decode b_PD_init 20 = .ok (.invokespecial 20, 3) := by decide +kernel
theorem d_PD_init_23 : decode b_PD_init 23 = .ok (.putfield 23, 3) := by decide +kernel
theorem d_PD_init_26 : decode b_PD_init 26 = .ok (.aload_n 0, 1) := by decide +kernel
theorem d_PD_init_27 : decode b_PD_init 27 = .ok (.bipush 16, 2) := by decide +kernel
theorem d_PD_init_29 : decode b_PD_init 29 = .ok (.anewarray 27, 3) := by decide +kernel
theorem d_PD_init_32 : decode b_PD_init 32 = .ok (.putfield 29, 3) := by decide +kernel
theorem d_PD_init_35 : decode b_PD_init 35 = .ok (.iconst 0, 1) := by decide +kernel
theorem d_PD_init_36 : decode b_PD_init 36 = .ok (.istore_n 2, 1) := by decide +kernel
theorem d_PD_init_37 : decode b_PD_init 37 = .ok (.iload_n 2, 1) := by decide +kernel
theorem d_PD_init_38 : decode b_PD_init 38 = .ok (.bipush 16, 2) := by decide +kernel
theorem d_PD_init_40 : decode b_PD_init 40 = .ok (.if_icmp .ge 22, 3) := by decide +kernel
theorem d_PD_init_43 : decode b_PD_init 43 = .ok (.aload_n 0, 1) := by decide +kernel
theorem d_PD_init_44 : decode b_PD_init 44 = .ok (.getfield 29, 3) := by decide +kernel
theorem d_PD_init_47 : decode b_PD_init 47 = .ok (.iload_n 2, 1) := by decide +kernel
theorem d_PD_init_48 : decode b_PD_init 48 = .ok (.new 27, 3) := by decide +kernel
theorem d_PD_init_51 : decode b_PD_init 51 = .ok (.dup, 1) := by decide +kernel
theorem d_PD_init_52 : decode b_PD_init 52 = .ok (.invokespecial 33, 3) := by decide +kernel
theorem d_PD_init_55 : decode b_PD_init 55 = .ok (.aastore, 1) := by decide +kernel
theorem d_PD_init_56 : decode b_PD_init 56 = .ok (.iinc 2 1, 3) := by decide +kernel
theorem d_PD_init_59 : decode b_PD_init 59 = .ok (.goto (-22), 3) := by decide +kernel
theorem d_PD_init_62 : decode b_PD_init 62 = .ok (.aload_n 0, 1) := by decide +kernel
theorem d_PD_init_63 : decode b_PD_init 63 = .ok (.sipush 4096, 3) := by decide +kernel
theorem d_PD_init_66 : decode b_PD_init 66 = .ok (.newarray .byte, 2) := by decide +kernel
theorem d_PD_init_68 : decode b_PD_init 68 = .ok (.putfield 34, 3) := by decide +kernel
theorem d_PD_init_71 : decode b_PD_init 71 = .ok (.aload_n 0, 1) := by decide +kernel
theorem d_PD_init_72 : decode b_PD_init 72 = .ok (.iconst 0, 1) := by decide +kernel
theorem d_PD_init_73 : decode b_PD_init 73 = .ok (.putfield 38, 3) := by decide +kernel
theorem d_PD_init_76 : decode b_PD_init 76 = .ok (.return_, 1) := by decide +kernel
theorem d_PD_feed_0 : decode b_PD_feed 0 = .ok (.iload_n 3, 1) := by decide +kernel
theorem d_PD_feed_1 : decode b_PD_feed 1 = .ok (.iconst 1, 1) := by decide +kernel
theorem d_PD_feed_2 : decode b_PD_feed 2 = .ok (.if_icmp .lt 9, 3) := by decide +kernel
theorem d_PD_feed_5 : decode b_PD_feed 5 = .ok (.iload_n 3, 1) := by decide +kernel
theorem d_PD_feed_6 : decode b_PD_feed 6 = .ok (.bipush 8, 2) := by decide +kernel
theorem d_PD_feed_8 : decode b_PD_feed 8 = .ok (.if_icmp .le 13, 3) := by decide +kernel
theorem d_PD_feed_11 : decode b_PD_feed 11 = .ok (.new 42, 3) := by decide +kernel
theorem d_PD_feed_14 : decode b_PD_feed 14 = .ok (.dup, 1) := by decide +kernel
theorem d_PD_feed_15 : decode b_PD_feed 15 = .ok (.ldc 44, 2) := by decide +kernel
theorem d_PD_feed_17 : decode b_PD_feed 17 = .ok (.invokespecial 46, 3) := by decide +kernel
theorem d_PD_feed_20 : decode b_PD_feed 20 = .ok (.athrow, 1) := by decide +kernel
theorem d_PD_feed_21 : decode b_PD_feed 21 = .ok (.aload_n 0, 1) := by decide +kernel
theorem d_PD_feed_22 : decode b_PD_feed 22 = .ok (.getfield 38, 3) := by decide +kernel
theorem d_PD_feed_25 : decode b_PD_feed 25 = .ok (.iload_n 3, 1) := by decide +kernel
theorem d_PD_feed_26 : decode b_PD_feed 26 = .ok (.iadd, 1) := by decide +kernel
theorem d_PD_feed_27 : decode b_PD_feed 27 = .ok (.sipush 4096, 3) := by decide +kernel
theorem d_PD_feed_30 : decode b_PD_feed 30 = .ok (.if_icmp .le 13, 3) := by decide +kernel
theorem d_PD_feed_33 : decode b_PD_feed 33 = .ok (.new 49, 3) := by decide +kernel
theorem d_PD_feed_36 : decode b_PD_feed 36 = .ok (.dup, 1) := by decide +kernel
theorem d_PD_feed_37 : decode b_PD_feed 37 = .ok (.ldc 51, 2) := by decide +kernel
theorem d_PD_feed_39 : decode b_PD_feed 39 = .ok (.invokespecial 53, 3) := by decide +kernel
theorem d_PD_feed_42 : decode b_PD_feed 42 = .ok (.athrow, 1) := by decide +kernel
theorem d_PD_feed_43 : decode b_PD_feed 43 = .ok (.iconst 0, 1) := by decide +kernel
theorem d_PD_feed_44 : decode b_PD_feed 44 = .ok (.istore 4, 2) := by decide +kernel
theorem d_PD_feed_46 : decode b_PD_feed 46 = .ok (.iload 4, 2) := by decide +kernel
theorem d_PD_feed_48 : decode b_PD_feed 48 = .ok (.iload_n 3, 1) := by decide +kernel
theorem d_PD_feed_49 : decode b_PD_feed 49 = .ok (.if_icmp .ge 30, 3) := by decide +kernel
theorem d_PD_feed_52 : decode b_PD_feed 52 = .ok (.aload_n 0, 1) := by decide +kernel
theorem d_PD_feed_53 : decode b_PD_feed 53 = .ok (.getfield 34, 3) := by decide +kernel
theorem d_PD_feed_56 : decode b_PD_feed 56 = .ok (.aload_n 0, 1) := by decide +kernel
theorem d_PD_feed_57 : decode b_PD_feed 57 = .ok (.getfield 38, 3) := by decide +kernel
theorem d_PD_feed_60 : decode b_PD_feed 60 = .ok (.iload 4, 2) := by decide +kernel
theorem d_PD_feed_62 : decode b_PD_feed 62 = .ok (.iadd, 1) := by decide +kernel
theorem d_PD_feed_63 : decode b_PD_feed 63 = .ok (.lload_n 1, 1) := by decide +kernel
theorem d_PD_feed_64 : decode b_PD_feed 64 = .ok (.bipush 8, 2) := by decide +kernel
theorem d_PD_feed_66 : decode b_PD_feed 66 = .ok (.iload 4, 2) := by decide +kernel
theorem d_PD_feed_68 : decode b_PD_feed 68 = .ok (.imul, 1) := by decide +kernel
theorem d_PD_feed_69 : decode b_PD_feed 69 = .ok (.lushr, 1) := by decide +kernel
theorem d_PD_feed_70 : decode b_PD_feed 70 = .ok (.l2i, 1) := by decide +kernel
theorem d_PD_feed_71 : decode b_PD_feed 71 = .ok (.i2b, 1) := by decide +kernel
theorem d_PD_feed_72 : decode b_PD_feed 72 = .ok (.bastore, 1) := by decide +kernel
theorem d_PD_feed_73 : decode b_PD_feed 73 = .ok (.iinc 4 1, 3) := by decide +kernel
theorem d_PD_feed_76 : decode b_PD_feed 76 = .ok (.goto (-30), 3) := by decide +kernel
theorem d_PD_feed_79 : decode b_PD_feed 79 = .ok (.aload_n 0, 1) := by decide +kernel
theorem d_PD_feed_80 : decode b_PD_feed 80 = .ok (.dup, 1) := by decide +kernel
theorem d_PD_feed_81 : decode b_PD_feed 81 = .ok (.getfield 38, 3) := by decide +kernel
theorem d_PD_feed_84 : decode b_PD_feed 84 = .ok (.iload_n 3, 1) := by decide +kernel
theorem d_PD_feed_85 : decode b_PD_feed 85 = .ok (.iadd, 1) := by decide +kernel
theorem d_PD_feed_86 : decode b_PD_feed 86 = .ok (.putfield 38, 3) := by decide +kernel
theorem d_PD_feed_89 : decode b_PD_feed 89 = .ok (.aload_n 0, 1) := by decide +kernel
theorem d_PD_feed_90 : decode b_PD_feed 90 = .ok (.getfield 38, 3) := by decide +kernel
theorem d_PD_feed_93 : decode b_PD_feed 93 = .ok (.ireturn, 1) := by decide +kernel
theorem d_PD_append_0 : decode b_PD_append 0 = .ok (.iload_n 1, 1) := by decide +kernel
theorem d_PD_append_1 : decode b_PD_append 1 = .ok (.invokestatic 54, 3) := by decide +kernel
theorem d_PD_append_4 : decode b_PD_append 4 = .ok (.ifCond .eq 14, 3) := by decide +kernel
theorem d_PD_append_7 : decode b_PD_append 7 = .ok (.iload_n 2, 1) := by decide +kernel
theorem d_PD_append_8 : decode b_PD_append 8 = .ok (.iconst 1, 1) := by decide +kernel
theorem d_PD_append_9 : decode b_PD_append 9 = .ok (.if_icmp .lt 9, 3) := by decide +kernel
theorem d_PD_append_12 : decode b_PD_append 12 = .ok (.iload_n 2, 1) := by decide +kernel
theorem d_PD_append_13 : decode b_PD_append 13 = .ok (.bipush 16, 2) := by decide +kernel
theorem d_PD_append_15 : decode b_PD_append 15 = .ok (.if_icmp .le 13, 3) := by decide +kernel
theorem d_PD_append_18 : decode b_PD_append 18 = .ok (.new 58, 3) := by decide +kernel
theorem d_PD_append_21 : decode b_PD_append 21 = .ok (.dup, 1) := by decide +kernel
theorem d_PD_append_22 : decode b_PD_append 22 = .ok (.ldc 60, 2) := by decide +kernel
theorem d_PD_append_24 : decode b_PD_append 24 = .ok (.invokespecial 62, 3) := by decide +kernel
theorem d_PD_append_27 : decode b_PD_append 27 = .ok (.athrow, 1) := by decide +kernel
theorem d_PD_append_28 : decode b_PD_append 28 = .ok (.aload_n 0, 1) := by decide +kernel
theorem d_PD_append_29 : decode b_PD_append 29 = .ok (.getfield 38, 3) := by decide +kernel
theorem d_PD_append_32 : decode b_PD_append 32 = .ok (.istore_n 3, 1) := by decide +kernel
theorem d_PD_append_33 : decode b_PD_append 33 = .ok (.aload_n 0, 1) := by decide +kernel
theorem d_PD_append_34 : decode b_PD_append 34 = .ok (.iconst 0, 1) := by decide +kernel
theorem d_PD_append_35 : decode b_PD_append 35 = .ok (.putfield 38, 3) := by decide +kernel
theorem d_PD_append_38 : decode b_PD_append 38 = .ok (.aload_n 0, 1) := by decide +kernel
theorem d_PD_append_39 : decode b_PD_append 39 = .ok (.getfield 29, 3) := by decide +kernel
theorem d_PD_append_42 : decode b_PD_append 42 = .ok (.iload_n 1, 1) := by decide +kernel
theorem d_PD_append_43 : decode b_PD_append 43 = .ok (.aaload, 1) := by decide +kernel
theorem d_PD_append_44 : decode b_PD_append 44 = .ok (.getfield 63, 3) := by decide +kernel
theorem d_PD_append_47 : decode b_PD_append 47 = .ok (.astore 4, 2) := by decide +kernel
theorem d_PD_append_49 : decode b_PD_append 49 = .ok (.aload 4, 2) := by decide +kernel
theorem d_PD_append_51 : decode b_PD_append 51 = .ok (.getfield 67, 3) := by decide +kernel
theorem d_PD_append_54 : decode b_PD_append 54 = .ok (.istore 5, 2) := by decide +kernel
theorem d_PD_append_56 : decode b_PD_append 56 = .ok (.iload 5, 2) := by decide +kernel
theorem d_PD_append_58 : decode b_PD_append 58 = .ok (.iload_n 3, 1) := by decide +kernel
theorem d_PD_append_59 : decode b_PD_append 59 = .ok (.iload_n 2, 1) := by decide +kernel
theorem d_PD_append_60 : decode b_PD_append 60 = .ok (.imul, 1) := by decide +kernel
theorem d_PD_append_61 : decode b_PD_append 61 = .ok (.iadd, 1) := by decide +kernel
theorem d_PD_append_62 : decode b_PD_append 62 = .ok (.istore 6, 2) := by decide +kernel
theorem d_PD_append_64 : decode b_PD_append 64 = .ok (.aload_n 0, 1) := by decide +kernel
theorem d_PD_append_65 : decode b_PD_append 65 = .ok (.aload 4, 2) := by decide +kernel
theorem d_PD_append_67 : decode b_PD_append 67 = .ok (.iload 6, 2) := by decide +kernel
theorem d_PD_append_69 : decode b_PD_append 69 = .ok (.invokevirtual 72, 3) := by decide +kernel
theorem d_PD_append_72 : decode b_PD_append 72 = .ok (.ifCond .ne 13, 3) := by decide +kernel
theorem d_PD_append_75 : decode b_PD_append 75 = .ok (.new 76, 3) := by decide +kernel
theorem d_PD_append_78 : decode b_PD_append 78 = .ok (.dup, 1) := by decide +kernel
theorem d_PD_append_79 : decode b_PD_append 79 = .ok (.ldc 78, 2) := by decide +kernel
theorem d_PD_append_81 : decode b_PD_append 81 = .ok (.invokespecial 80, 3) := by decide +kernel
theorem d_PD_append_84 : decode b_PD_append 84 = .ok (.athrow, 1) := by decide +kernel
theorem d_PD_append_85 : decode b_PD_append 85 = .ok (.aload_n 0, 1) := by decide +kernel
theorem d_PD_append_86 : decode b_PD_append 86 = .ok (.aload 4, 2) := by decide +kernel
theorem d_PD_append_88 : decode b_PD_append 88 = .ok (.iload 6, 2) := by decide +kernel
theorem d_PD_append_90 : decode b_PD_append 90 = .ok (.invokevirtual 81, 3) := by decide +kernel
theorem d_PD_append_93 : decode b_PD_append 93 = .ok (.aload_n 0, 1) := by decide +kernel
theorem d_PD_append_94 : decode b_PD_append 94 = .ok (.aload 4, 2) := by decide +kernel
theorem d_PD_append_96 : decode b_PD_append 96 = .ok (.iload 5, 2) := by decide +kernel
theorem d_PD_append_98 : decode b_PD_append 98 = .ok (.iload_n 3, 1) := by decide +kernel
theorem d_PD_append_99 : decode b_PD_append 99 = .ok (.iload_n 2, 1) := by decide +kernel
theorem d_PD_append_100 : decode b_PD_append 100 = .ok (.invokevirtual 85, 3) := by decide +kernel
theorem d_PD_append_103 : decode b_PD_append 103 = .ok (.iload 6, 2) := by decide +kernel
theorem d_PD_append_105 : decode b_PD_append 105 = .ok (.ireturn, 1) := by decide +kernel
theorem d_PD_cut_0 : decode b_PD_cut 0 = .ok (.iload_n 1, 1) := by decide +kernel
theorem d_PD_cut_1 : decode b_PD_cut 1 = .ok (.invokestatic 54, 3) := by decide +kernel
theorem d_PD_cut_4 : decode b_PD_cut 4 = .ok (.ifCond .ne 13, 3) := by decide +kernel
theorem d_PD_cut_7 : decode b_PD_cut 7 = .ok (.new 58, 3) := by decide +kernel
theorem d_PD_cut_10 : decode b_PD_cut 10 = .ok (.dup, 1) := by decide +kernel
theorem d_PD_cut_11 : decode b_PD_cut 11 = .ok (.ldc 89, 2) := by decide +kernel
theorem d_PD_cut_13 : decode b_PD_cut 13 = .ok (.invokespecial 62, 3) := by decide +kernel
theorem d_PD_cut_16 : decode b_PD_cut 16 = .ok (.athrow, 1) := by decide +kernel
theorem d_PD_cut_17 : decode b_PD_cut 17 = .ok (.aload_n 0, 1) := by decide +kernel
theorem d_PD_cut_18 : decode b_PD_cut 18 = .ok (.getfield 29, 3) := by decide +kernel
theorem d_PD_cut_21 : decode b_PD_cut 21 = .ok (.iload_n 1, 1) := by decide +kernel
theorem d_PD_cut_22 : decode b_PD_cut 22 = .ok (.aaload, 1) := by decide +kernel
theorem d_PD_cut_23 : decode b_PD_cut 23 = .ok (.astore_n 3, 1) := by decide +kernel
theorem d_PD_cut_24 : decode b_PD_cut 24 = .ok (.aload_n 3, 1) := by decide +kernel
theorem d_PD_cut_25 : decode b_PD_cut 25 = .ok (.getfield 63, 3) := by decide +kernel
theorem d_PD_cut_28 : decode b_PD_cut 28 = .ok (.getfield 91, 3) := by decide +kernel
theorem d_PD_cut_31 : decode b_PD_cut 31 = .ok (.ifCond .ne 13, 3) := by decide +kernel
theorem d_PD_cut_34 : decode b_PD_cut 34 = .ok (.new 95, 3) := by decide +kernel
theorem d_PD_cut_37 : decode b_PD_cut 37 = .ok (.dup, 1) := by decide +kernel
theorem d_PD_cut_38 : decode b_PD_cut 38 = .ok (.ldc 97, 2) := by decide +kernel
theorem d_PD_cut_40 : decode b_PD_cut 40 = .ok (.invokespecial 99, 3) := by decide +kernel
theorem d_PD_cut_43 : decode b_PD_cut 43 = .ok (.athrow, 1) := by decide +kernel
theorem d_PD_cut_44 : decode b_PD_cut 44 = .ok (.aload_n 3, 1) := by decide +kernel
theorem d_PD_cut_45 : decode b_PD_cut 45 = .ok (.getfield 63, 3) := by decide +kernel
theorem d_PD_cut_48 : decode b_PD_cut 48 = .ok (.getfield 67, 3) := by decide +kernel
theorem d_PD_cut_51 : decode b_PD_cut 51 = .ok (.istore 4, 2) := by decide +kernel
theorem d_PD_cut_53 : decode b_PD_cut 53 = .ok (.iload_n 2, 1) := by decide +kernel
theorem d_PD_cut_54 : decode b_PD_cut 54 = .ok (.ifCond .lt 9, 3) := by decide +kernel
theorem d_PD_cut_57 : decode b_PD_cut 57 = .ok (.iload_n 2, 1) := by decide +kernel
theorem d_PD_cut_58 : decode b_PD_cut 58 = .ok (.iload 4, 2) := by decide +kernel
theorem d_PD_cut_60 : decode b_PD_cut 60 = .ok (.if_icmp .le 13, 3) := by decide +kernel
theorem d_PD_cut_63 : decode b_PD_cut 63 = .ok (.new 42, 3) := by decide +kernel
theorem d_PD_cut_66 : decode b_PD_cut 66 = .ok (.dup, 1) := by decide +kernel
theorem d_PD_cut_67 : decode b_PD_cut 67 = .ok (.ldc 100, 2) := by decide +kernel
theorem d_PD_cut_69 : decode b_PD_cut 69 = .ok (.invokespecial 46, 3) := by decide +kernel
theorem d_PD_cut_72 : decode b_PD_cut 72 = .ok (.athrow, 1) := by decide +kernel
theorem d_PD_cut_73 : decode b_PD_cut 73 = .ok (.aload_n 0, 1) := by decide +kernel
theorem d_PD_cut_74 : decode b_PD_cut 74 = .ok (.aload_n 3, 1) := by decide +kernel
theorem d_PD_cut_75 : decode b_PD_cut 75 = .ok (.getfield 63, 3) := by decide +kernel
theorem d_PD_cut_78 : decode b_PD_cut 78 = .ok (.iload_n 2, 1) := by decide +kernel
theorem d_PD_cut_79 : decode b_PD_cut 79 = .ok (.invokevirtual 102, 3) := by decide +kernel
theorem d_PD_cut_82 : decode b_PD_cut 82 = .ok (.aload_n 3, 1) := by decide +kernel
theorem d_PD_cut_83 : decode b_PD_cut 83 = .ok (.aload_n 3, 1) := by decide +kernel
theorem d_PD_cut_84 : decode b_PD_cut 84 = .ok (.getfield 105, 3) := by decide +kernel
theorem d_PD_cut_87 : decode b_PD_cut 87 = .ok (.iload_n 2, 1) := by decide +kernel
theorem d_PD_cut_88 : decode b_PD_cut 88 = .ok (.invokestatic 11, 3) := by decide +kernel
theorem d_PD_cut_91 : decode b_PD_cut 91 = .ok (.putfield 105, 3) := by decide +kernel
theorem d_PD_cut_94 : decode b_PD_cut 94 = .ok (.iload 4, 2) := by decide +kernel
theorem d_PD_cut_96 : decode b_PD_cut 96 = .ok (.ireturn, 1) := by decide +kernel
theorem d_PD_remove_0 : decode b_PD_remove 0 = .ok (.iload_n 1, 1) := by decide +kernel
theorem d_PD_remove_1 : decode b_PD_remove 1 = .ok (.invokestatic 54, 3) := by decide +kernel
theorem d_PD_remove_4 : decode b_PD_remove 4 = .ok (.ifCond .ne 13, 3) := by decide +kernel
theorem d_PD_remove_7 : decode b_PD_remove 7 = .ok (.new 58, 3) := by decide +kernel
theorem d_PD_remove_10 : decode b_PD_remove 10 = .ok (.dup, 1) := by decide +kernel
theorem d_PD_remove_11 : decode b_PD_remove 11 = .ok (.ldc 89, 2) := by decide +kernel
theorem d_PD_remove_13 : decode b_PD_remove 13 = .ok (.invokespecial 62, 3) := by decide +kernel
theorem d_PD_remove_16 : decode b_PD_remove 16 = .ok (.athrow, 1) := by decide +kernel
theorem d_PD_remove_17 : decode b_PD_remove 17 = .ok (.aload_n 0, 1) := by decide +kernel
theorem d_PD_remove_18 : decode b_PD_remove 18 = .ok (.getfield 29, 3) := by decide +kernel
theorem d_PD_remove_21 : decode b_PD_remove 21 = .ok (.iload_n 1, 1) := by decide +kernel
theorem d_PD_remove_22 : decode b_PD_remove 22 = .ok (.aaload, 1) := by decide +kernel
theorem d_PD_remove_23 : decode b_PD_remove 23 = .ok (.astore_n 2, 1) := by decide +kernel
theorem d_PD_remove_24 : decode b_PD_remove 24 = .ok (.aload_n 2, 1) := by decide +kernel
theorem d_PD_remove_25 : decode b_PD_remove 25 = .ok (.getfield 63, 3) := by decide +kernel
theorem d_PD_remove_28 : decode b_PD_remove 28 = .ok (.getfield 91, 3) := by decide +kernel
theorem d_PD_remove_31 : decode b_PD_remove 31 = .ok (.istore_n 3, 1) := by decide +kernel
theorem d_PD_remove_32 : decode b_PD_remove 32 = .ok (.aload_n 0, 1) := by decide +kernel
theorem d_PD_remove_33 : decode b_PD_remove 33 = .ok (.aload_n 2, 1) := by decide +kernel
theorem d_PD_remove_34 : decode b_PD_remove 34 = .ok (.getfield 63, 3) := by decide +kernel
theorem d_PD_remove_37 : decode b_PD_remove 37 = .ok (.iconst 0, 1) := by decide +kernel
theorem d_PD_remove_38 : decode b_PD_remove 38 = .ok (.invokevirtual 102, 3) := by decide +kernel
theorem d_PD_remove_41 : decode b_PD_remove 41 = .ok (.aload_n 2, 1) := by decide +kernel
theorem d_PD_remove_42 : decode b_PD_remove 42 = .ok (.getfield 63, 3) := by decide +kernel
theorem d_PD_remove_45 : decode b_PD_remove 45 = .ok (.iconst 0, 1) := by decide +kernel
theorem d_PD_remove_46 : decode b_PD_remove 46 = .ok (.putfield 91, 3) := by decide +kernel
theorem d_PD_remove_49 : decode b_PD_remove 49 = .ok (.aload_n 2, 1) := by decide +kernel
theorem d_PD_remove_50 : decode b_PD_remove 50 = .ok (.iconst 0, 1) := by decide +kernel
theorem d_PD_remove_51 : decode b_PD_remove 51 = .ok (.putfield 105, 3) := by decide +kernel
theorem d_PD_remove_54 : decode b_PD_remove 54 = .ok (.iload_n 3, 1) := by decide +kernel
theorem d_PD_remove_55 : decode b_PD_remove 55 = .ok (.ireturn, 1) := by decide +kernel
theorem d_PD_twin_0 : decode b_PD_twin 0 = .ok (.iload_n 1, 1) := by decide +kernel
theorem d_PD_twin_1 : decode b_PD_twin 1 = .ok (.invokestatic 54, 3) := by decide +kernel
theorem d_PD_twin_4 : decode b_PD_twin 4 = .ok (.ifCond .eq 10, 3) := by decide +kernel
theorem d_PD_twin_7 : decode b_PD_twin 7 = .ok (.iload_n 2, 1) := by decide +kernel
theorem d_PD_twin_8 : decode b_PD_twin 8 = .ok (.invokestatic 54, 3) := by decide +kernel
theorem d_PD_twin_11 : decode b_PD_twin 11 = .ok (.ifCond .ne 13, 3) := by decide +kernel
theorem d_PD_twin_14 : decode b_PD_twin 14 = .ok (.new 58, 3) := by decide +kernel
theorem d_PD_twin_17 : decode b_PD_twin 17 = .ok (.dup, 1) := by decide +kernel
theorem d_PD_twin_18 : decode b_PD_twin 18 = .ok (.ldc 89, 2) := by decide +kernel
theorem d_PD_twin_20 : decode b_PD_twin 20 = .ok (.invokespecial 62, 3) := by decide +kernel
theorem d_PD_twin_23 : decode b_PD_twin 23 = .ok (.athrow, 1) := by decide +kernel
theorem d_PD_twin_24 : decode b_PD_twin 24 = .ok (.aload_n 0, 1) := by decide +kernel
theorem d_PD_twin_25 : decode b_PD_twin 25 = .ok (.getfield 29, 3) := by decide +kernel
theorem d_PD_twin_28 : decode b_PD_twin 28 = .ok (.iload_n 1, 1) := by decide +kernel
theorem d_PD_twin_29 : decode b_PD_twin 29 = .ok (.aaload, 1) := by decide +kernel
theorem d_PD_twin_30 : decode b_PD_twin 30 = .ok (.getfield 63, 3) := by decide +kernel
theorem d_PD_twin_33 : decode b_PD_twin 33 = .ok (.getfield 91, 3) := by decide +kernel
theorem d_PD_twin_36 : decode b_PD_twin 36 = .ok (.ifCond .ne 13, 3) := by decide +kernel
theorem d_PD_twin_39 : decode b_PD_twin 39 = .ok (.new 95, 3) := by decide +kernel
theorem d_PD_twin_42 : decode b_PD_twin 42 = .ok (.dup, 1) := by decide +kernel
theorem d_PD_twin_43 : decode b_PD_twin 43 = .ok (.ldc 97, 2) := by decide +kernel
theorem d_PD_twin_45 : decode b_PD_twin 45 = .ok (.invokespecial 99, 3) := by decide +kernel
theorem d_PD_twin_48 : decode b_PD_twin 48 = .ok (.athrow, 1) := by decide +kernel
theorem d_PD_twin_49 : decode b_PD_twin 49 = .ok (.aload_n 0, 1) := by decide +kernel
theorem d_PD_twin_50 : decode b_PD_twin 50 = .ok (.getfield 29, 3) := by decide +kernel
theorem d_PD_twin_53 : decode b_PD_twin 53 = .ok (.iload_n 2, 1) := by decide +kernel
theorem d_PD_twin_54 : decode b_PD_twin 54 = .ok (.aaload, 1) := by decide +kernel
theorem d_PD_twin_55 : decode b_PD_twin 55 = .ok (.astore_n 3, 1) := by decide +kernel
theorem d_PD_twin_56 : decode b_PD_twin 56 = .ok (.aload_n 0, 1) := by decide +kernel
theorem d_PD_twin_57 : decode b_PD_twin 57 = .ok (.aload_n 3, 1) := by decide +kernel
theorem d_PD_twin_58 : decode b_PD_twin 58 = .ok (.getfield 63, 3) := by decide +kernel
theorem d_PD_twin_61 : decode b_PD_twin 61 = .ok (.aload_n 0, 1) := by decide +kernel
theorem d_PD_twin_62 : decode b_PD_twin 62 = .ok (.getfield 29, 3) := by decide +kernel
theorem d_PD_twin_65 : decode b_PD_twin 65 = .ok (.iload_n 1, 1) := by decide +kernel
theorem d_PD_twin_66 : decode b_PD_twin 66 = .ok (.aaload, 1) := by decide +kernel
theorem d_PD_twin_67 : decode b_PD_twin 67 = .ok (.getfield 63, 3) := by decide +kernel
theorem d_PD_twin_70 : decode b_PD_twin 70 = .ok (.invokevirtual 108, 3) := by decide +kernel
theorem d_PD_twin_73 : decode b_PD_twin 73 = .ok (.aload_n 3, 1) := by decide +kernel
theorem d_PD_twin_74 : decode b_PD_twin 74 = .ok (.iconst 0, 1) := by decide +kernel
theorem d_PD_twin_75 : decode b_PD_twin 75 = .ok (.putfield 105, 3) := by decide +kernel
theorem d_PD_twin_78 : decode b_PD_twin 78 = .ok (.aload_n 3, 1) := by decide +kernel
theorem d_PD_twin_79 : decode b_PD_twin 79 = .ok (.getfield 63, 3) := by decide +kernel
theorem d_PD_twin_82 : decode b_PD_twin 82 = .ok (.getfield 67, 3) := by decide +kernel
theorem d_PD_twin_85 : decode b_PD_twin 85 = .ok (.ireturn, 1) := by decide +kernel
theorem d_PD_sync_0 : decode b_PD_sync 0 = .ok (.iload_n 1, 1) := by decide +kernel
theorem d_PD_sync_1 : decode b_PD_sync 1 = .ok (.invokestatic 54, 3) := by decide +kernel
theorem d_PD_sync_4 : decode b_PD_sync 4 = .ok (.ifCond .ne 13, 3) := by decide +kernel
theorem d_PD_sync_7 : decode b_PD_sync 7 = .ok (.new 58, 3) := by decide +kernel
theorem d_PD_sync_10 : decode b_PD_sync 10 = .ok (.dup, 1) := by decide +kernel
theorem d_PD_sync_11 : decode b_PD_sync 11 = .ok (.ldc 89, 2) := by decide +kernel
theorem d_PD_sync_13 : decode b_PD_sync 13 = .ok (.invokespecial 62, 3) := by decide +kernel
theorem d_PD_sync_16 : decode b_PD_sync 16 = .ok (.athrow, 1) := by decide +kernel
theorem d_PD_sync_17 : decode b_PD_sync 17 = .ok (.aload_n 0, 1) := by decide +kernel
theorem d_PD_sync_18 : decode b_PD_sync 18 = .ok (.getfield 29, 3) := by decide +kernel
theorem d_PD_sync_21 : decode b_PD_sync 21 = .ok (.iload_n 1, 1) := by decide +kernel
theorem d_PD_sync_22 : decode b_PD_sync 22 = .ok (.aaload, 1) := by decide +kernel
theorem d_PD_sync_23 : decode b_PD_sync 23 = .ok (.astore_n 2, 1) := by decide +kernel
theorem d_PD_sync_24 : decode b_PD_sync 24 = .ok (.aload_n 2, 1) := by decide +kernel
theorem d_PD_sync_25 : decode b_PD_sync 25 = .ok (.getfield 112, 3) := by decide +kernel
theorem d_PD_sync_28 : decode b_PD_sync 28 = .ok (.aload_n 2, 1) := by decide +kernel
theorem d_PD_sync_29 : decode b_PD_sync 29 = .ok (.getfield 63, 3) := by decide +kernel
theorem d_PD_sync_32 : decode b_PD_sync 32 = .ok (.invokestatic 115, 3) := by decide +kernel
theorem d_PD_sync_35 : decode b_PD_sync 35 = .ok (.istore_n 3, 1) := by decide +kernel
theorem d_PD_sync_36 : decode b_PD_sync 36 = .ok (.aload_n 0, 1) := by decide +kernel
theorem d_PD_sync_37 : decode b_PD_sync 37 = .ok (.aload_n 2, 1) := by decide +kernel
theorem d_PD_sync_38 : decode b_PD_sync 38 = .ok (.invokevirtual 119, 3) := by decide +kernel
theorem d_PD_sync_41 : decode b_PD_sync 41 = .ok (.iload_n 3, 1) := by decide +kernel
theorem d_PD_sync_42 : decode b_PD_sync 42 = .ok (.ireturn, 1) := by decide +kernel
theorem d_PD_crash_0 : decode b_PD_crash 0 = .ok (.iload_n 1, 1) := by decide +kernel
theorem d_PD_crash_1 : decode b_PD_crash 1 = .ok (.invokestatic 54, 3) := by decide +kernel
theorem d_PD_crash_4 : decode b_PD_crash 4 = .ok (.ifCond .ne 13, 3) := by decide +kernel
theorem d_PD_crash_7 : decode b_PD_crash 7 = .ok (.new 58, 3) := by decide +kernel
theorem d_PD_crash_10 : decode b_PD_crash 10 = .ok (.dup, 1) := by decide +kernel
theorem d_PD_crash_11 : decode b_PD_crash 11 = .ok (.ldc 89, 2) := by decide +kernel
theorem d_PD_crash_13 : decode b_PD_crash 13 = .ok (.invokespecial 62, 3) := by decide +kernel
theorem d_PD_crash_16 : decode b_PD_crash 16 = .ok (.athrow, 1) := by decide +kernel
theorem d_PD_crash_17 : decode b_PD_crash 17 = .ok (.iload_n 2, 1) := by decide +kernel
theorem d_PD_crash_18 : decode b_PD_crash 18 = .ok (.ifCond .ge 13, 3) := by decide +kernel
theorem d_PD_crash_21 : decode b_PD_crash 21 = .ok (.new 42, 3) := by decide +kernel
theorem d_PD_crash_24 : decode b_PD_crash 24 = .ok (.dup, 1) := by decide +kernel
theorem d_PD_crash_25 : decode b_PD_crash 25 = .ok (.ldc 123, 2) := by decide +kernel
theorem d_PD_crash_27 : decode b_PD_crash 27 = .ok (.invokespecial 46, 3) := by decide +kernel
theorem d_PD_crash_30 : decode b_PD_crash 30 = .ok (.athrow, 1) := by decide +kernel
theorem d_PD_crash_31 : decode b_PD_crash 31 = .ok (.aload_n 0, 1) := by decide +kernel
theorem d_PD_crash_32 : decode b_PD_crash 32 = .ok (.aload_n 0, 1) := by decide +kernel
theorem d_PD_crash_33 : decode b_PD_crash 33 = .ok (.getfield 29, 3) := by decide +kernel
theorem d_PD_crash_36 : decode b_PD_crash 36 = .ok (.iload_n 1, 1) := by decide +kernel
theorem d_PD_crash_37 : decode b_PD_crash 37 = .ok (.aaload, 1) := by decide +kernel
theorem d_PD_crash_38 : decode b_PD_crash 38 = .ok (.iload_n 2, 1) := by decide +kernel
theorem d_PD_crash_39 : decode b_PD_crash 39 = .ok (.invokevirtual 125, 3) := by decide +kernel
theorem d_PD_crash_42 : decode b_PD_crash 42 = .ok (.aload_n 0, 1) := by decide +kernel
theorem d_PD_crash_43 : decode b_PD_crash 43 = .ok (.getfield 29, 3) := by decide +kernel
theorem d_PD_crash_46 : decode b_PD_crash 46 = .ok (.iload_n 1, 1) := by decide +kernel
theorem d_PD_crash_47 : decode b_PD_crash 47 = .ok (.aaload, 1) := by decide +kernel
theorem d_PD_crash_48 : decode b_PD_crash 48 = .ok (.getfield 63, 3) := by decide +kernel
theorem d_PD_crash_51 : decode b_PD_crash 51 = .ok (.getfield 67, 3) := by decide +kernel
theorem d_PD_crash_54 : decode b_PD_crash 54 = .ok (.ireturn, 1) := by decide +kernel
theorem d_PD_crashAll_0 : decode b_PD_crashAll 0 = .ok (.lload_n 1, 1) := by decide +kernel
theorem d_PD_crashAll_1 : decode b_PD_crashAll 1 = .ok (.lstore_n 3, 1) := by decide +kernel
theorem d_PD_crashAll_2 : decode b_PD_crashAll 2 = .ok (.iconst 0, 1) := by decide +kernel
theorem d_PD_crashAll_3 : decode b_PD_crashAll 3 = .ok (.istore 5, 2) := by decide +kernel
theorem d_PD_crashAll_5 : decode b_PD_crashAll 5 = .ok (.iload 5, 2) := by decide +kernel
theorem d_PD_crashAll_7 : decode b_PD_crashAll 7 = .ok (.bipush 16, 2) := by decide +kernel
theorem d_PD_crashAll_9 : decode b_PD_crashAll 9 = .ok (.if_icmp .ge 41, 3) := by decide +kernel
theorem d_PD_crashAll_12 : decode b_PD_crashAll 12 = .ok (.lload_n 3, 1) := by decide +kernel
theorem d_PD_crashAll_13 : decode b_PD_crashAll 13 = .ok (.ldc2_w 129, 3) := by decide +kernel
theorem d_PD_crashAll_16 : decode b_PD_crashAll 16 = .ok (.lmul, 1) := by decide +kernel
theorem d_PD_crashAll_17 : decode b_PD_crashAll 17 = .ok (.ldc2_w 131, 3) := by decide +kernel
theorem d_PD_crashAll_20 : decode b_PD_crashAll 20 = .ok (.ladd, 1) := by decide +kernel
theorem d_PD_crashAll_21 : decode b_PD_crashAll 21 = .ok (.lstore_n 3, 1) := by decide +kernel
theorem d_PD_crashAll_22 : decode b_PD_crashAll 22 = .ok (.aload_n 0, 1) := by decide +kernel
theorem d_PD_crashAll_23 : decode b_PD_crashAll 23 = .ok (.aload_n 0, 1) := by decide +kernel
theorem d_PD_crashAll_24 : decode b_PD_crashAll 24 = .ok (.getfield 29, 3) := by decide +kernel
theorem d_PD_crashAll_27 : decode b_PD_crashAll 27 = .ok (.iload 5, 2) := by decide +kernel
theorem d_PD_crashAll_29 : decode b_PD_crashAll 29 = .ok (.aaload, 1) := by decide +kernel
theorem d_PD_crashAll_30 : decode b_PD_crashAll 30 = .ok (.lload_n 3, 1) := by decide +kernel
theorem d_PD_crashAll_31 : decode b_PD_crashAll 31 = .ok (.aload_n 0, 1) := by decide +kernel
theorem d_PD_crashAll_32 : decode b_PD_crashAll 32 = .ok (.getfield 29, 3) := by decide +kernel
theorem d_PD_crashAll_35 : decode b_PD_crashAll 35 = .ok (.iload 5, 2) := by decide +kernel
theorem d_PD_crashAll_37 : decode b_PD_crashAll 37 = .ok (.aaload, 1) := by decide +kernel
theorem d_PD_crashAll_38 : decode b_PD_crashAll 38 = .ok (.invokestatic 133, 3) := by decide +kernel
theorem d_PD_crashAll_41 : decode b_PD_crashAll 41 = .ok (.invokevirtual 125, 3) := by decide +kernel
theorem d_PD_crashAll_44 : decode b_PD_crashAll 44 = .ok (.iinc 5 1, 3) := by decide +kernel
theorem d_PD_crashAll_47 : decode b_PD_crashAll 47 = .ok (.goto (-42), 3) := by decide +kernel
theorem d_PD_crashAll_50 : decode b_PD_crashAll 50 = .ok (.aload_n 0, 1) := by decide +kernel
theorem d_PD_crashAll_51 : decode b_PD_crashAll 51 = .ok (.invokevirtual 137, 3) := by decide +kernel
theorem d_PD_crashAll_54 : decode b_PD_crashAll 54 = .ok (.ireturn, 1) := by decide +kernel
theorem d_PD_file_0 : decode b_PD_file 0 = .ok (.iload_n 1, 1) := by decide +kernel
theorem d_PD_file_1 : decode b_PD_file 1 = .ok (.invokestatic 54, 3) := by decide +kernel
theorem d_PD_file_4 : decode b_PD_file 4 = .ok (.ifCond .eq 13, 3) := by decide +kernel
theorem d_PD_file_7 : decode b_PD_file 7 = .ok (.iload_n 2, 1) := by decide +kernel
theorem d_PD_file_8 : decode b_PD_file 8 = .ok (.ifCond .lt 9, 3) := by decide +kernel
theorem d_PD_file_11 : decode b_PD_file 11 = .ok (.iload_n 2, 1) := by decide +kernel
theorem d_PD_file_12 : decode b_PD_file 12 = .ok (.bipush 7, 2) := by decide +kernel
theorem d_PD_file_14 : decode b_PD_file 14 = .ok (.if_icmp .le 13, 3) := by decide +kernel
theorem d_PD_file_17 : decode b_PD_file 17 = .ok (.new 58, 3) := by decide +kernel
theorem d_PD_file_20 : decode b_PD_file 20 = .ok (.dup, 1) := by decide +kernel
theorem d_PD_file_21 : decode b_PD_file 21 = .ok (.ldc 141, 2) := by decide +kernel
theorem d_PD_file_23 : decode b_PD_file 23 = .ok (.invokespecial 62, 3) := by decide +kernel
theorem d_PD_file_26 : decode b_PD_file 26 = .ok (.athrow, 1) := by decide +kernel
theorem d_PD_file_27 : decode b_PD_file 27 = .ok (.aload_n 0, 1) := by decide +kernel
theorem d_PD_file_28 : decode b_PD_file 28 = .ok (.getfield 29, 3) := by decide +kernel
theorem d_PD_file_31 : decode b_PD_file 31 = .ok (.iload_n 1, 1) := by decide +kernel
theorem d_PD_file_32 : decode b_PD_file 32 = .ok (.aaload, 1) := by decide +kernel
theorem d_PD_file_33 : decode b_PD_file 33 = .ok (.astore_n 3, 1) := by decide +kernel
theorem d_PD_file_34 : decode b_PD_file 34 = .ok (.iload_n 2, 1) := by decide +kernel
theorem d_PD_file_35 : decode b_PD_file 35 = .ok (.tableswitch 116 0 6 #[41, 49, 57, 62, 78, 94, 105], 41) := by decide +kernel
theorem d_PD_file_76 : decode b_PD_file 76 = .ok (.aload_n 3, 1) := by decide +kernel
theorem d_PD_file_77 : decode b_PD_file 77 = .ok (.getfield 63, 3) := by decide +kernel
theorem d_PD_file_80 : decode b_PD_file 80 = .ok (.getfield 67, 3) := by decide +kernel
theorem d_PD_file_83 : decode b_PD_file 83 = .ok (.ireturn, 1) := by decide +kernel
theorem d_PD_file_84 : decode b_PD_file 84 = .ok (.aload_n 3, 1) := by decide +kernel
theorem d_PD_file_85 : decode b_PD_file 85 = .ok (.getfield 112, 3) := by decide +kernel
theorem d_PD_file_88 : decode b_PD_file 88 = .ok (.getfield 67, 3) := by decide +kernel
theorem d_PD_file_91 : decode b_PD_file 91 = .ok (.ireturn, 1) := by decide +kernel
theorem d_PD_file_92 : decode b_PD_file 92 = .ok (.aload_n 3, 1) := by decide +kernel
theorem d_PD_file_93 : decode b_PD_file 93 = .ok (.getfield 105, 3) := by decide +kernel
theorem d_PD_file_96 : decode b_PD_file 96 = .ok (.ireturn, 1) := by decide +kernel
theorem d_PD_file_97 : decode b_PD_file 97 = .ok (.aload_n 3, 1) := by decide +kernel
theorem d_PD_file_98 : decode b_PD_file 98 = .ok (.getfield 63, 3) := by decide +kernel
theorem d_PD_file_101 : decode b_PD_file 101 = .ok (.getfield 91, 3) := by decide +kernel
theorem d_PD_file_104 : decode b_PD_file 104 = .ok (.ifCond .eq 7, 3) := by decide +kernel
theorem d_PD_file_107 : decode b_PD_file 107 = .ok (.iconst 1, 1) := by decide +kernel
theorem d_PD_file_108 : decode b_PD_file 108 = .ok (.goto 4, 3) := by decide +kernel
theorem d_PD_file_111 : decode b_PD_file 111 = .ok (.iconst 0, 1) := by decide +kernel
theorem d_PD_file_112 : decode b_PD_file 112 = .ok (.ireturn, 1) := by decide +kernel
theorem d_PD_file_113 : decode b_PD_file 113 = .ok (.aload_n 3, 1) := by decide +kernel
theorem d_PD_file_114 : decode b_PD_file 114 = .ok (.getfield 112, 3) := by decide +kernel
theorem d_PD_file_117 : decode b_PD_file 117 = .ok (.getfield 91, 3) := by decide +kernel
theorem d_PD_file_120 : decode b_PD_file 120 = .ok (.ifCond .eq 7, 3) := by decide +kernel
theorem d_PD_file_123 : decode b_PD_file 123 = .ok (.iconst 1, 1) := by decide +kernel
theorem d_PD_file_124 : decode b_PD_file 124 = .ok (.goto 4, 3) := by decide +kernel
theorem d_PD_file_127 : decode b_PD_file 127 = .ok (.iconst 0, 1) := by decide +kernel
theorem d_PD_file_128 : decode b_PD_file 128 = .ok (.ireturn, 1) := by decide +kernel
theorem d_PD_file_129 : decode b_PD_file 129 = .ok (.aload_n 3, 1) := by decide +kernel
theorem d_PD_file_130 : decode b_PD_file 130 = .ok (.getfield 63, 3) := by decide +kernel
theorem d_PD_file_133 : decode b_PD_file 133 = .ok (.getfield 67, 3) := by decide +kernel
theorem d_PD_file_136 : decode b_PD_file 136 = .ok (.invokestatic 143, 3) := by decide +kernel
theorem d_PD_file_139 : decode b_PD_file 139 = .ok (.ireturn, 1) := by decide +kernel
theorem d_PD_file_140 : decode b_PD_file 140 = .ok (.aload_n 3, 1) := by decide +kernel
theorem d_PD_file_141 : decode b_PD_file 141 = .ok (.getfield 112, 3) := by decide +kernel
theorem d_PD_file_144 : decode b_PD_file 144 = .ok (.getfield 67, 3) := by decide +kernel
theorem d_PD_file_147 : decode b_PD_file 147 = .ok (.invokestatic 143, 3) := by decide +kernel
theorem d_PD_file_150 : decode b_PD_file 150 = .ok (.ireturn, 1) := by decide +kernel
theorem d_PD_file_151 : decode b_PD_file 151 = .ok (.aload_n 0, 1) := by decide +kernel
theorem d_PD_file_152 : decode b_PD_file 152 = .ok (.aload_n 3, 1) := by decide +kernel
theorem d_PD_file_153 : decode b_PD_file 153 = .ok (.getfield 63, 3) := by decide +kernel
theorem d_PD_file_156 : decode b_PD_file 156 = .ok (.invokevirtual 147, 3) := by decide +kernel
theorem d_PD_file_159 : decode b_PD_file 159 = .ok (.ireturn, 1) := by decide +kernel
theorem d_PD_byteAt_0 : decode b_PD_byteAt 0 = .ok (.iload_n 1, 1) := by decide +kernel
theorem d_PD_byteAt_1 : decode b_PD_byteAt 1 = .ok (.invokestatic 54, 3) := by decide +kernel
theorem d_PD_byteAt_4 : decode b_PD_byteAt 4 = .ok (.ifCond .ne 13, 3) := by decide +kernel
theorem d_PD_byteAt_7 : decode b_PD_byteAt 7 = .ok (.new 58, 3) := by decide +kernel
theorem d_PD_byteAt_10 : decode b_PD_byteAt 10 = .ok (.dup, 1) := by decide +kernel
theorem d_PD_byteAt_11 : decode b_PD_byteAt 11 = .ok (.ldc 89, 2) := by decide +kernel
theorem d_PD_byteAt_13 : decode b_PD_byteAt 13 = .ok (.invokespecial 62, 3) := by decide +kernel
theorem d_PD_byteAt_16 : decode b_PD_byteAt 16 = .ok (.athrow, 1) := by decide +kernel
theorem d_PD_byteAt_17 : decode b_PD_byteAt 17 = .ok (.iload_n 2, 1) := by decide +kernel
theorem d_PD_byteAt_18 : decode b_PD_byteAt 18 = .ok (.ifCond .eq 15, 3) := by decide +kernel
theorem d_PD_byteAt_21 : decode b_PD_byteAt 21 = .ok (.aload_n 0, 1) := by decide +kernel
theorem d_PD_byteAt_22 : decode b_PD_byteAt 22 = .ok (.getfield 29, 3) := by decide +kernel
theorem d_PD_byteAt_25 : decode b_PD_byteAt 25 = .ok (.iload_n 1, 1) := by decide +kernel
theorem d_PD_byteAt_26 : decode b_PD_byteAt 26 = .ok (.aaload, 1) := by decide +kernel
theorem d_PD_byteAt_27 : decode b_PD_byteAt 27 = .ok (.getfield 112, 3) := by decide +kernel
theorem d_PD_byteAt_30 : decode b_PD_byteAt 30 = .ok (.goto 12, 3) := by decide +kernel
theorem d_PD_byteAt_33 : decode b_PD_byteAt 33 = .ok (.aload_n 0, 1) := by decide +kernel
theorem d_PD_byteAt_34 : decode b_PD_byteAt 34 = .ok (.getfield 29, 3) := by decide +kernel
theorem d_PD_byteAt_37 : decode b_PD_byteAt 37 = .ok (.iload_n 1, 1) := by decide +kernel
theorem d_PD_byteAt_38 : decode b_PD_byteAt 38 = .ok (.aaload, 1) := by decide +kernel
theorem d_PD_byteAt_39 : decode b_PD_byteAt 39 = .ok (.getfield 63, 3) := by decide +kernel
theorem d_PD_byteAt_42 : decode b_PD_byteAt 42 = .ok (.astore 4, 2) := by decide +kernel
theorem d_PD_byteAt_44 : decode b_PD_byteAt 44 = .ok (.iload_n 3, 1) := by decide +kernel
theorem d_PD_byteAt_45 : decode b_PD_byteAt 45 = .ok (.ifCond .lt 12, 3) := by decide +kernel
theorem d_PD_byteAt_48 : decode b_PD_byteAt 48 = .ok (.iload_n 3, 1) := by decide +kernel
theorem d_PD_byteAt_49 : decode b_PD_byteAt 49 = .ok (.aload 4, 2) := by decide +kernel
theorem d_PD_byteAt_51 : decode b_PD_byteAt 51 = .ok (.getfield 67, 3) := by decide +kernel
theorem d_PD_byteAt_54 : decode b_PD_byteAt 54 = .ok (.if_icmp .lt 13, 3) := by decide +kernel
theorem d_PD_byteAt_57 : decode b_PD_byteAt 57 = .ok (.new 58, 3) := by decide +kernel
theorem d_PD_byteAt_60 : decode b_PD_byteAt 60 = .ok (.dup, 1) := by decide +kernel
theorem d_PD_byteAt_61 : decode b_PD_byteAt 61 = .ok (.ldc 151, 2) := by decide +kernel
theorem d_PD_byteAt_63 : decode b_PD_byteAt 63 = .ok (.invokespecial 62, 3) := by decide +kernel
theorem d_PD_byteAt_66 : decode b_PD_byteAt 66 = .ok (.athrow, 1) := by decide +kernel
theorem d_PD_byteAt_67 : decode b_PD_byteAt 67 = .ok (.aload_n 0, 1) := by decide +kernel
theorem d_PD_byteAt_68 : decode b_PD_byteAt 68 = .ok (.getfield 23, 3) := by decide +kernel
theorem d_PD_byteAt_71 : decode b_PD_byteAt 71 = .ok (.getfield 153, 3) := by decide +kernel
theorem d_PD_byteAt_74 : decode b_PD_byteAt 74 = .ok (.aload 4, 2) := by decide +kernel
theorem d_PD_byteAt_76 : decode b_PD_byteAt 76 = .ok (.iload_n 3, 1) := by decide +kernel
theorem d_PD_byteAt_77 : decode b_PD_byteAt 77 = .ok (.invokevirtual 156, 3) := by decide +kernel
theorem d_PD_byteAt_80 : decode b_PD_byteAt 80 = .ok (.baload, 1) := by decide +kernel
theorem d_PD_byteAt_81 : decode b_PD_byteAt 81 = .ok (.sipush 255, 3) := by decide +kernel
theorem d_PD_byteAt_84 : decode b_PD_byteAt 84 = .ok (.iand, 1) := by decide +kernel
theorem d_PD_byteAt_85 : decode b_PD_byteAt 85 = .ok (.ireturn, 1) := by decide +kernel
theorem d_PD_count_0 : decode b_PD_count 0 = .ok (.iload_n 1, 1) := by decide +kernel
theorem d_PD_count_1 : decode b_PD_count 1 = .ok (.tableswitch 77 0 4 #[35, 51, 59, 67, 72], 35) := by decide +kernel
theorem d_PD_count_36 : decode b_PD_count 36 = .ok (.aload_n 0, 1) := by decide +kernel
theorem d_PD_count_37 : decode b_PD_count 37 = .ok (.getfield 23, 3) := by decide +kernel
theorem d_PD_count_40 : decode b_PD_count 40 = .ok (.getfield 159, 3) := by decide +kernel
theorem d_PD_count_43 : decode b_PD_count 43 = .ok (.aload_n 0, 1) := by decide +kernel
theorem d_PD_count_44 : decode b_PD_count 44 = .ok (.getfield 23, 3) := by decide +kernel
theorem d_PD_count_47 : decode b_PD_count 47 = .ok (.getfield 162, 3) := by decide +kernel
theorem d_PD_count_50 : decode b_PD_count 50 = .ok (.isub, 1) := by decide +kernel
theorem d_PD_count_51 : decode b_PD_count 51 = .ok (.ireturn, 1) := by decide +kernel
theorem d_PD_count_52 : decode b_PD_count 52 = .ok (.aload_n 0, 1) := by decide +kernel
theorem d_PD_count_53 : decode b_PD_count 53 = .ok (.getfield 23, 3) := by decide +kernel
theorem d_PD_count_56 : decode b_PD_count 56 = .ok (.getfield 159, 3) := by decide +kernel
theorem d_PD_count_59 : decode b_PD_count 59 = .ok (.ireturn, 1) := by decide +kernel
theorem d_PD_count_60 : decode b_PD_count 60 = .ok (.aload_n 0, 1) := by decide +kernel
theorem d_PD_count_61 : decode b_PD_count 61 = .ok (.getfield 23, 3) := by decide +kernel
theorem d_PD_count_64 : decode b_PD_count 64 = .ok (.getfield 165, 3) := by decide +kernel
theorem d_PD_count_67 : decode b_PD_count 67 = .ok (.ireturn, 1) := by decide +kernel
theorem d_PD_count_68 : decode b_PD_count 68 = .ok (.aload_n 0, 1) := by decide +kernel
theorem d_PD_count_69 : decode b_PD_count 69 = .ok (.getfield 38, 3) := by decide +kernel
theorem d_PD_count_72 : decode b_PD_count 72 = .ok (.ireturn, 1) := by decide +kernel
theorem d_PD_count_73 : decode b_PD_count 73 = .ok (.aload_n 0, 1) := by decide +kernel
theorem d_PD_count_74 : decode b_PD_count 74 = .ok (.invokevirtual 137, 3) := by decide +kernel
theorem d_PD_count_77 : decode b_PD_count 77 = .ok (.ireturn, 1) := by decide +kernel
theorem d_PD_count_78 : decode b_PD_count 78 = .ok (.iconst (-1), 1) := by decide +kernel
theorem d_PD_count_79 : decode b_PD_count 79 = .ok (.ireturn, 1) := by decide +kernel
theorem d_PD_isFile_0 : decode b_PD_isFile 0 = .ok (.iload_n 0, 1) := by decide +kernel
theorem d_PD_isFile_1 : decode b_PD_isFile 1 = .ok (.ifCond .lt 13, 3) := by decide +kernel
theorem d_PD_isFile_4 : decode b_PD_isFile 4 = .ok (.iload_n 0, 1) := by decide +kernel
theorem d_PD_isFile_5 : decode b_PD_isFile 5 = .ok (.bipush 16, 2) := by decide +kernel
theorem d_PD_isFile_7 : decode b_PD_isFile 7 = .ok (.if_icmp .ge 7, 3) := by decide +kernel
theorem d_PD_isFile_10 : decode b_PD_isFile 10 = .ok (.iconst 1, 1) := by decide +kernel
theorem d_PD_isFile_11 : decode b_PD_isFile 11 = .ok (.goto 4, 3) := by decide +kernel
theorem d_PD_isFile_14 : decode b_PD_isFile 14 = .ok (.iconst 0, 1) := by decide +kernel
theorem d_PD_isFile_15 : decode b_PD_isFile 15 = .ok (.ireturn, 1) := by decide +kernel
theorem d_PD_pagesFor_0 : decode b_PD_pagesFor 0 = .ok (.iload_n 0, 1) := by decide +kernel
theorem d_PD_pagesFor_1 : decode b_PD_pagesFor 1 = .ok (.bipush 64, 2) := by decide +kernel
theorem d_PD_pagesFor_3 : decode b_PD_pagesFor 3 = .ok (.iadd, 1) := by decide +kernel
theorem d_PD_pagesFor_4 : decode b_PD_pagesFor 4 = .ok (.iconst 1, 1) := by decide +kernel
theorem d_PD_pagesFor_5 : decode b_PD_pagesFor 5 = .ok (.isub, 1) := by decide +kernel
theorem d_PD_pagesFor_6 : decode b_PD_pagesFor 6 = .ok (.bipush 64, 2) := by decide +kernel
theorem d_PD_pagesFor_8 : decode b_PD_pagesFor 8 = .ok (.idiv, 1) := by decide +kernel
theorem d_PD_pagesFor_9 : decode b_PD_pagesFor 9 = .ok (.ireturn, 1) := by decide +kernel
theorem d_PD_filesThere_0 : decode b_PD_filesThere 0 = .ok (.iconst 0, 1) := by decide +kernel
theorem d_PD_filesThere_1 : decode b_PD_filesThere 1 = .ok (.istore_n 1, 1) := by decide +kernel
theorem d_PD_filesThere_2 : decode b_PD_filesThere 2 = .ok (.iconst 0, 1) := by decide +kernel
theorem d_PD_filesThere_3 : decode b_PD_filesThere 3 = .ok (.istore_n 2, 1) := by decide +kernel
theorem d_PD_filesThere_4 : decode b_PD_filesThere 4 = .ok (.iload_n 2, 1) := by decide +kernel
theorem d_PD_filesThere_5 : decode b_PD_filesThere 5 = .ok (.bipush 16, 2) := by decide +kernel
theorem d_PD_filesThere_7 : decode b_PD_filesThere 7 = .ok (.if_icmp .ge 27, 3) := by decide +kernel
theorem d_PD_filesThere_10 : decode b_PD_filesThere 10 = .ok (.aload_n 0, 1) := by decide +kernel
theorem d_PD_filesThere_11 : decode b_PD_filesThere 11 = .ok (.getfield 29, 3) := by decide +kernel
theorem d_PD_filesThere_14 : decode b_PD_filesThere 14 = .ok (.iload_n 2, 1) := by decide +kernel
theorem d_PD_filesThere_15 : decode b_PD_filesThere 15 = .ok (.aaload, 1) := by decide +kernel
theorem d_PD_filesThere_16 : decode b_PD_filesThere 16 = .ok (.getfield 63, 3) := by decide +kernel
theorem d_PD_filesThere_19 : decode b_PD_filesThere 19 = .ok (.getfield 91, 3) := by decide +kernel
theorem d_PD_filesThere_22 : decode b_PD_filesThere 22 = .ok (.ifCond .eq 6, 3) := by decide +kernel
theorem d_PD_filesThere_25 : decode b_PD_filesThere 25 = .ok (.iinc 1 1, 3) := by decide +kernel
theorem d_PD_filesThere_28 : decode b_PD_filesThere 28 = .ok (.iinc 2 1, 3) := by decide +kernel
theorem d_PD_filesThere_31 : decode b_PD_filesThere 31 = .ok (.goto (-27), 3) := by decide +kernel
theorem d_PD_filesThere_34 : decode b_PD_filesThere 34 = .ok (.iload_n 1, 1) := by decide +kernel
theorem d_PD_filesThere_35 : decode b_PD_filesThere 35 = .ok (.ireturn, 1) := by decide +kernel
theorem d_PD_hasRoom_0 : decode b_PD_hasRoom 0 = .ok (.iload_n 2, 1) := by decide +kernel
theorem d_PD_hasRoom_1 : decode b_PD_hasRoom 1 = .ok (.invokestatic 143, 3) := by decide +kernel
theorem d_PD_hasRoom_4 : decode b_PD_hasRoom 4 = .ok (.aload_n 1, 1) := by decide +kernel
theorem d_PD_hasRoom_5 : decode b_PD_hasRoom 5 = .ok (.getfield 67, 3) := by decide +kernel
theorem d_PD_hasRoom_8 : decode b_PD_hasRoom 8 = .ok (.invokestatic 143, 3) := by decide +kernel
theorem d_PD_hasRoom_11 : decode b_PD_hasRoom 11 = .ok (.isub, 1) := by decide +kernel
theorem d_PD_hasRoom_12 : decode b_PD_hasRoom 12 = .ok (.aload_n 0, 1) := by decide +kernel
theorem d_PD_hasRoom_13 : decode b_PD_hasRoom 13 = .ok (.aload_n 1, 1) := by decide +kernel
theorem d_PD_hasRoom_14 : decode b_PD_hasRoom 14 = .ok (.iload_n 2, 1) := by decide +kernel
theorem d_PD_hasRoom_15 : decode b_PD_hasRoom 15 = .ok (.invokevirtual 168, 3) := by decide +kernel
theorem d_PD_hasRoom_18 : decode b_PD_hasRoom 18 = .ok (.ifCond .eq 7, 3) := by decide +kernel
theorem d_PD_hasRoom_21 : decode b_PD_hasRoom 21 = .ok (.iconst 1, 1) := by decide +kernel
theorem d_PD_hasRoom_22 : decode b_PD_hasRoom 22 = .ok (.goto 4, 3) := by decide +kernel
theorem d_PD_hasRoom_25 : decode b_PD_hasRoom 25 = .ok (.iconst 0, 1) := by decide +kernel
theorem d_PD_hasRoom_26 : decode b_PD_hasRoom 26 = .ok (.iadd, 1) := by decide +kernel
theorem d_PD_hasRoom_27 : decode b_PD_hasRoom 27 = .ok (.istore_n 3, 1) := by decide +kernel
theorem d_PD_hasRoom_28 : decode b_PD_hasRoom 28 = .ok (.iload_n 2, 1) := by decide +kernel
theorem d_PD_hasRoom_29 : decode b_PD_hasRoom 29 = .ok (.invokestatic 143, 3) := by decide +kernel
theorem d_PD_hasRoom_32 : decode b_PD_hasRoom 32 = .ok (.sipush 400, 3) := by decide +kernel
theorem d_PD_hasRoom_35 : decode b_PD_hasRoom 35 = .ok (.if_icmp .gt 18, 3) := by decide +kernel
theorem d_PD_hasRoom_38 : decode b_PD_hasRoom 38 = .ok (.iload_n 3, 1) := by decide +kernel
theorem d_PD_hasRoom_39 : decode b_PD_hasRoom 39 = .ok (.aload_n 0, 1) := by decide +kernel
theorem d_PD_hasRoom_40 : decode b_PD_hasRoom 40 = .ok (.getfield 23, 3) := by decide +kernel
theorem d_PD_hasRoom_43 : decode b_PD_hasRoom 43 = .ok (.getfield 162, 3) := by decide +kernel
theorem d_PD_hasRoom_46 : decode b_PD_hasRoom 46 = .ok (.if_icmp .gt 7, 3) := by decide +kernel
theorem d_PD_hasRoom_49 : decode b_PD_hasRoom 49 = .ok (.iconst 1, 1) := by decide +kernel
theorem d_PD_hasRoom_50 : decode b_PD_hasRoom 50 = .ok (.goto 4, 3) := by decide +kernel
theorem d_PD_hasRoom_53 : decode b_PD_hasRoom 53 = .ok (.iconst 0, 1) := by decide +kernel
theorem d_PD_hasRoom_54 : decode b_PD_hasRoom 54 = .ok (.ireturn, 1) := by decide +kernel
theorem d_PD_mustCopyLast_0 : decode b_PD_mustCopyLast 0 = .ok (.iload_n 2, 1) := by decide +kernel
theorem d_PD_mustCopyLast_1 : decode b_PD_mustCopyLast 1 = .ok (.aload_n 1, 1) := by decide +kernel
theorem d_PD_mustCopyLast_2 : decode b_PD_mustCopyLast 2 = .ok (.getfield 67, 3) := by decide +kernel
theorem d_PD_mustCopyLast_5 : decode b_PD_mustCopyLast 5 = .ok (.if_icmp .le 39, 3) := by decide +kernel
theorem d_PD_mustCopyLast_8 : decode b_PD_mustCopyLast 8 = .ok (.aload_n 1, 1) := by decide +kernel
theorem d_PD_mustCopyLast_9 : decode b_PD_mustCopyLast 9 = .ok (.getfield 67, 3) := by decide +kernel
theorem d_PD_mustCopyLast_12 : decode b_PD_mustCopyLast 12 = .ok (.bipush 64, 2) := by decide +kernel
theorem d_PD_mustCopyLast_14 : decode b_PD_mustCopyLast 14 = .ok (.irem, 1) := by decide +kernel
theorem d_PD_mustCopyLast_15 : decode b_PD_mustCopyLast 15 = .ok (.ifCond .eq 29, 3) := by decide +kernel
theorem d_PD_mustCopyLast_18 : decode b_PD_mustCopyLast 18 = .ok (.aload_n 0, 1) := by decide +kernel
theorem d_PD_mustCopyLast_19 : decode b_PD_mustCopyLast 19 = .ok (.getfield 23, 3) := by decide +kernel
theorem d_PD_mustCopyLast_22 : decode b_PD_mustCopyLast 22 = .ok (.aload_n 1, 1) := by decide +kernel
theorem d_PD_mustCopyLast_23 : decode b_PD_mustCopyLast 23 = .ok (.getfield 171, 3) := by decide +kernel
theorem d_PD_mustCopyLast_26 : decode b_PD_mustCopyLast 26 = .ok (.aload_n 1, 1) := by decide +kernel
theorem d_PD_mustCopyLast_27 : decode b_PD_mustCopyLast 27 = .ok (.getfield 67, 3) := by decide +kernel
theorem d_PD_mustCopyLast_30 : decode b_PD_mustCopyLast 30 = .ok (.bipush 64, 2) := by decide +kernel
theorem d_PD_mustCopyLast_32 : decode b_PD_mustCopyLast 32 = .ok (.idiv, 1) := by decide +kernel
theorem d_PD_mustCopyLast_33 : decode b_PD_mustCopyLast 33 = .ok (.iaload, 1) := by decide +kernel
theorem d_PD_mustCopyLast_34 : decode b_PD_mustCopyLast 34 = .ok (.invokevirtual 175, 3) := by decide +kernel
theorem d_PD_mustCopyLast_37 : decode b_PD_mustCopyLast 37 = .ok (.ifCond .eq 7, 3) := by decide +kernel
theorem d_PD_mustCopyLast_40 : decode b_PD_mustCopyLast 40 = .ok (.iconst 1, 1) := by decide +kernel
theorem d_PD_mustCopyLast_41 : decode b_PD_mustCopyLast 41 = .ok (.goto 4, 3) := by decide +kernel
theorem d_PD_mustCopyLast_44 : decode b_PD_mustCopyLast 44 = .ok (.iconst 0, 1) := by decide +kernel
theorem d_PD_mustCopyLast_45 : decode b_PD_mustCopyLast 45 = .ok (.ireturn, 1) := by decide +kernel
theorem d_PD_grow_0 : decode b_PD_grow 0 = .ok (.aload_n 0, 1) := by decide +kernel
theorem d_PD_grow_1 : decode b_PD_grow 1 = .ok (.aload_n 1, 1) := by decide +kernel
theorem d_PD_grow_2 : decode b_PD_grow 2 = .ok (.iload_n 2, 1) := by decide +kernel
theorem d_PD_grow_3 : decode b_PD_grow 3 = .ok (.invokevirtual 168, 3) := by decide +kernel
theorem d_PD_grow_6 : decode b_PD_grow 6 = .ok (.ifCond .eq 30, 3) := by decide +kernel
theorem d_PD_grow_9 : decode b_PD_grow 9 = .ok (.aload_n 1, 1) := by decide +kernel
theorem d_PD_grow_10 : decode b_PD_grow 10 = .ok (.getfield 67, 3) := by decide +kernel
theorem d_PD_grow_13 : decode b_PD_grow 13 = .ok (.bipush 64, 2) := by decide +kernel
theorem d_PD_grow_15 : decode b_PD_grow 15 = .ok (.idiv, 1) := by decide +kernel
theorem d_PD_grow_16 : decode b_PD_grow 16 = .ok (.istore_n 3, 1) := by decide +kernel
theorem d_PD_grow_17 : decode b_PD_grow 17 = .ok (.aload_n 1, 1) := by decide +kernel
theorem d_PD_grow_18 : decode b_PD_grow 18 = .ok (.getfield 171, 3) := by decide +kernel
theorem d_PD_grow_21 : decode b_PD_grow 21 = .ok (.iload_n 3, 1) := by decide +kernel
theorem d_PD_grow_22 : decode b_PD_grow 22 = .ok (.aload_n 0, 1) := by decide +kernel
theorem d_PD_grow_23 : decode b_PD_grow 23 = .ok (.getfield 23, 3) := by decide +kernel
theorem d_PD_grow_26 : decode b_PD_grow 26 = .ok (.aload_n 1, 1) := by decide +kernel
theorem d_PD_grow_27 : decode b_PD_grow 27 = .ok (.getfield 171, 3) := by decide +kernel
theorem d_PD_grow_30 : decode b_PD_grow 30 = .ok (.iload_n 3, 1) := by decide +kernel
theorem d_PD_grow_31 : decode b_PD_grow 31 = .ok (.iaload, 1) := by decide +kernel
theorem d_PD_grow_32 : decode b_PD_grow 32 = .ok (.invokevirtual 178, 3) := by decide +kernel
theorem d_PD_grow_35 : decode b_PD_grow 35 = .ok (.iastore, 1) := by decide +kernel
theorem d_PD_grow_36 : decode b_PD_grow 36 = .ok (.aload_n 1, 1) := by decide +kernel
theorem d_PD_grow_37 : decode b_PD_grow 37 = .ok (.getfield 67, 3) := by decide +kernel
theorem d_PD_grow_40 : decode b_PD_grow 40 = .ok (.invokestatic 143, 3) := by decide +kernel
theorem d_PD_grow_43 : decode b_PD_grow 43 = .ok (.istore_n 3, 1) := by decide +kernel
theorem d_PD_grow_44 : decode b_PD_grow 44 = .ok (.iload_n 3, 1) := by decide +kernel
theorem d_PD_grow_45 : decode b_PD_grow 45 = .ok (.iload_n 2, 1) := by decide +kernel
theorem d_PD_grow_46 : decode b_PD_grow 46 = .ok (.invokestatic 143, 3) := by decide +kernel
theorem d_PD_grow_49 : decode b_PD_grow 49 = .ok (.if_icmp .ge 22, 3) := by decide +kernel
theorem d_PD_grow_52 : decode b_PD_grow 52 = .ok (.aload_n 1, 1) := by decide +kernel
theorem d_PD_grow_53 : decode b_PD_grow 53 = .ok (.getfield 171, 3) := by decide +kernel
theorem d_PD_grow_56 : decode b_PD_grow 56 = .ok (.iload_n 3, 1) := by decide +kernel
theorem d_PD_grow_57 : decode b_PD_grow 57 = .ok (.aload_n 0, 1) := by decide +kernel
theorem d_PD_grow_58 : decode b_PD_grow 58 = .ok (.getfield 23, 3) := by decide +kernel
theorem d_PD_grow_61 : decode b_PD_grow 61 = .ok (.invokevirtual 181, 3) := by decide +kernel
theorem d_PD_grow_64 : decode b_PD_grow 64 = .ok (.iastore, 1) := by decide +kernel
theorem d_PD_grow_65 : decode b_PD_grow 65 = .ok (.iinc 3 1, 3) := by decide +kernel
theorem d_PD_grow_68 : decode b_PD_grow 68 = .ok (.goto (-24), 3) := by decide +kernel
theorem d_PD_grow_71 : decode b_PD_grow 71 = .ok (.aload_n 1, 1) := by decide +kernel
theorem d_PD_grow_72 : decode b_PD_grow 72 = .ok (.iload_n 2, 1) := by decide +kernel
theorem d_PD_grow_73 : decode b_PD_grow 73 = .ok (.putfield 67, 3) := by decide +kernel
theorem d_PD_grow_76 : decode b_PD_grow 76 = .ok (.aload_n 1, 1) := by decide +kernel
theorem d_PD_grow_77 : decode b_PD_grow 77 = .ok (.iconst 1, 1) := by decide +kernel
theorem d_PD_grow_78 : decode b_PD_grow 78 = .ok (.putfield 91, 3) := by decide +kernel
theorem d_PD_grow_81 : decode b_PD_grow 81 = .ok (.return_, 1) := by decide +kernel
theorem d_PD_writeTape_0 : decode b_PD_writeTape 0 = .ok (.iload_n 2, 1) := by decide +kernel
theorem d_PD_writeTape_1 : decode b_PD_writeTape 1 = .ok (.istore 5, 2) := by decide +kernel
theorem d_PD_writeTape_3 : decode b_PD_writeTape 3 = .ok (.iconst 0, 1) := by decide +kernel
theorem d_PD_writeTape_4 : decode b_PD_writeTape 4 = .ok (.istore 6, 2) := by decide +kernel
theorem d_PD_writeTape_6 : decode b_PD_writeTape 6 = .ok (.iload 6, 2) := by decide +kernel
theorem d_PD_writeTape_8 : decode b_PD_writeTape 8 = .ok (.iload 4, 2) := by decide +kernel
theorem d_PD_writeTape_10 : decode b_PD_writeTape 10 = .ok (.if_icmp .ge 48, 3) := by decide +kernel
theorem d_PD_writeTape_13 : decode b_PD_writeTape 13 = .ok (.iconst 0, 1) := by decide +kernel
theorem d_PD_writeTape_14 : decode b_PD_writeTape 14 = .ok (.istore 7, 2) := by decide +kernel
theorem d_PD_writeTape_16 : decode b_PD_writeTape 16 = .ok (.iload 7, 2) := by decide +kernel
theorem d_PD_writeTape_18 : decode b_PD_writeTape 18 = .ok (.iload_n 3, 1) := by decide +kernel
theorem d_PD_writeTape_19 : decode b_PD_writeTape 19 = .ok (.if_icmp .ge 33, 3) := by decide +kernel
theorem d_PD_writeTape_22 : decode b_PD_writeTape 22 = .ok (.aload_n 0, 1) := by decide +kernel
theorem d_PD_writeTape_23 : decode b_PD_writeTape 23 = .ok (.getfield 23, 3) := by decide +kernel
theorem d_PD_writeTape_26 : decode b_PD_writeTape 26 = .ok (.getfield 153, 3) := by decide +kernel
theorem d_PD_writeTape_29 : decode b_PD_writeTape 29 = .ok (.aload_n 1, 1) := by decide +kernel
theorem d_PD_writeTape_30 : decode b_PD_writeTape 30 = .ok (.iload 5, 2) := by decide +kernel
theorem d_PD_writeTape_32 : decode b_PD_writeTape 32 = .ok (.invokevirtual 156, 3) := by decide +kernel
theorem d_PD_writeTape_35 : decode b_PD_writeTape 35 = .ok (.aload_n 0, 1) := by decide +kernel
theorem d_PD_writeTape_36 : decode b_PD_writeTape 36 = .ok (.getfield 34, 3) := by decide +kernel
theorem d_PD_writeTape_39 : decode b_PD_writeTape 39 = .ok (.iload 7, 2) := by decide +kernel
theorem d_PD_writeTape_41 : decode b_PD_writeTape 41 = .ok (.baload, 1) := by decide +kernel
theorem d_PD_writeTape_42 : decode b_PD_writeTape 42 = .ok (.bastore, 1) := by decide +kernel
theorem d_PD_writeTape_43 : decode b_PD_writeTape 43 = .ok (.iinc 5 1, 3) := by decide +kernel
theorem d_PD_writeTape_46 : decode b_PD_writeTape 46 = .ok (.iinc 7 1, 3) := by decide +kernel
theorem d_PD_writeTape_49 : decode b_PD_writeTape 49 = .ok (.goto (-33), 3) := by decide +kernel
theorem d_PD_writeTape_52 : decode b_PD_writeTape 52 = .ok (.iinc 6 1, 3) := by decide +kernel
theorem d_PD_writeTape_55 : decode b_PD_writeTape 55 = .ok (.goto (-49), 3) := by decide +kernel
theorem d_PD_writeTape_58 : decode b_PD_writeTape 58 = .ok (.return_, 1) := by decide +kernel
theorem d_PD_shorten_0 : decode b_PD_shorten 0 = .ok (.iload_n 2, 1) := by decide +kernel
theorem d_PD_shorten_1 : decode b_PD_shorten 1 = .ok (.invokestatic 143, 3) := by decide +kernel
theorem d_PD_shorten_4 : decode b_PD_shorten 4 = .ok (.istore_n 3, 1) := by decide +kernel
theorem d_PD_shorten_5 : decode b_PD_shorten 5 = .ok (.iload_n 3, 1) := by decide +kernel
theorem d_PD_shorten_6 : decode b_PD_shorten 6 = .ok (.aload_n 1, 1) := by decide +kernel
theorem d_PD_shorten_7 : decode b_PD_shorten 7 = .ok (.getfield 67, 3) := by decide +kernel
theorem d_PD_shorten_10 : decode b_PD_shorten 10 = .ok (.invokestatic 143, 3) := by decide +kernel
theorem d_PD_shorten_13 : decode b_PD_shorten 13 = .ok (.if_icmp .ge 22, 3) := by decide +kernel
theorem d_PD_shorten_16 : decode b_PD_shorten 16 = .ok (.aload_n 0, 1) := by decide +kernel
theorem d_PD_shorten_17 : decode b_PD_shorten 17 = .ok (.getfield 23, 3) := by decide +kernel
theorem d_PD_shorten_20 : decode b_PD_shorten 20 = .ok (.aload_n 1, 1) := by decide +kernel
theorem d_PD_shorten_21 : decode b_PD_shorten 21 = .ok (.getfield 171, 3) := by decide +kernel
theorem d_PD_shorten_24 : decode b_PD_shorten 24 = .ok (.iload_n 3, 1) := by decide +kernel
theorem d_PD_shorten_25 : decode b_PD_shorten 25 = .ok (.iaload, 1) := by decide +kernel
theorem d_PD_shorten_26 : decode b_PD_shorten 26 = .ok (.invokevirtual 184, 3) := by decide +kernel
theorem d_PD_shorten_29 : decode b_PD_shorten 29 = .ok (.iinc 3 1, 3) := by decide +kernel
theorem d_PD_shorten_32 : decode b_PD_shorten 32 = .ok (.goto (-27), 3) := by decide +kernel
theorem d_PD_shorten_35 : decode b_PD_shorten 35 = .ok (.aload_n 1, 1) := by decide +kernel
theorem d_PD_shorten_36 : decode b_PD_shorten 36 = .ok (.iload_n 2, 1) := by decide +kernel
theorem d_PD_shorten_37 : decode b_PD_shorten 37 = .ok (.putfield 67, 3) := by decide +kernel
theorem d_PD_shorten_40 : decode b_PD_shorten 40 = .ok (.return_, 1) := by decide +kernel
theorem d_PD_become_0 : decode b_PD_become 0 = .ok (.aload_n 1, 1) := by decide +kernel
theorem d_PD_become_1 : decode b_PD_become 1 = .ok (.aload_n 2, 1) := by decide +kernel
theorem d_PD_become_2 : decode b_PD_become 2 = .ok (.if_acmp .ne 4, 3) := by decide +kernel
theorem d_PD_become_5 : decode b_PD_become 5 = .ok (.return_, 1) := by decide +kernel
theorem d_PD_become_6 : decode b_PD_become 6 = .ok (.aload_n 2, 1) := by decide +kernel
theorem d_PD_become_7 : decode b_PD_become 7 = .ok (.getfield 67, 3) := by decide +kernel
theorem d_PD_become_10 : decode b_PD_become 10 = .ok (.invokestatic 143, 3) := by decide +kernel
theorem d_PD_become_13 : decode b_PD_become 13 = .ok (.istore_n 3, 1) := by decide +kernel
theorem d_PD_become_14 : decode b_PD_become 14 = .ok (.iconst 0, 1) := by decide +kernel
theorem d_PD_become_15 : decode b_PD_become 15 = .ok (.istore 4, 2) := by decide +kernel
theorem d_PD_become_17 : decode b_PD_become 17 = .ok (.iload 4, 2) := by decide +kernel
theorem d_PD_become_19 : decode b_PD_become 19 = .ok (.iload_n 3, 1) := by decide +kernel
theorem d_PD_become_20 : decode b_PD_become 20 = .ok (.if_icmp .ge 23, 3) := by decide +kernel
theorem d_PD_become_23 : decode b_PD_become 23 = .ok (.aload_n 0, 1) := by decide +kernel
theorem d_PD_become_24 : decode b_PD_become 24 = .ok (.getfield 23, 3) := by decide +kernel
theorem d_PD_become_27 : decode b_PD_become 27 = .ok (.aload_n 2, 1) := by decide +kernel
theorem d_PD_become_28 : decode b_PD_become 28 = .ok (.getfield 171, 3) := by decide +kernel
theorem d_PD_become_31 : decode b_PD_become 31 = .ok (.iload 4, 2) := by decide +kernel
theorem d_PD_become_33 : decode b_PD_become 33 = .ok (.iaload, 1) := by decide +kernel
theorem d_PD_become_34 : decode b_PD_become 34 = .ok (.invokevirtual 187, 3) := by decide +kernel
theorem d_PD_become_37 : decode b_PD_become 37 = .ok (.iinc 4 1, 3) := by decide +kernel
theorem d_PD_become_40 : decode b_PD_become 40 = .ok (.goto (-23), 3) := by decide +kernel
theorem d_PD_become_43 : decode b_PD_become 43 = .ok (.aload_n 0, 1) := by decide +kernel
theorem d_PD_become_44 : decode b_PD_become 44 = .ok (.aload_n 1, 1) := by decide +kernel
theorem d_PD_become_45 : decode b_PD_become 45 = .ok (.iconst 0, 1) := by decide +kernel
theorem d_PD_become_46 : decode b_PD_become 46 = .ok (.invokevirtual 102, 3) := by decide +kernel
theorem d_PD_become_49 : decode b_PD_become 49 = .ok (.aload_n 2, 1) := by decide +kernel
theorem d_PD_become_50 : decode b_PD_become 50 = .ok (.getfield 171, 3) := by decide +kernel
theorem d_PD_become_53 : decode b_PD_become 53 = .ok (.iconst 0, 1) := by decide +kernel
theorem d_PD_become_54 : decode b_PD_become 54 = .ok (.aload_n 1, 1) := by decide +kernel
theorem d_PD_become_55 : decode b_PD_become 55 = .ok (.getfield 171, 3) := by decide +kernel
theorem d_PD_become_58 : decode b_PD_become 58 = .ok (.iconst 0, 1) := by decide +kernel
theorem d_PD_become_59 : decode b_PD_become 59 = .ok (.iload_n 3, 1) := by decide +kernel
theorem d_PD_become_60 : decode b_PD_become 60 = .ok (.invokestatic 190, 3) := by decide +kernel
theorem d_PD_become_63 : decode b_PD_become 63 = .ok (.aload_n 1, 1) := by decide +kernel
theorem d_PD_become_64 : decode b_PD_become 64 = .ok (.aload_n 2, 1) := by decide +kernel
theorem d_PD_become_65 : decode b_PD_become 65 = .ok (.getfield 67, 3) := by decide +kernel
theorem d_PD_become_68 : decode b_PD_become 68 = .ok (.putfield 67, 3) := by decide +kernel
theorem d_PD_become_71 : decode b_PD_become 71 = .ok (.aload_n 1, 1) := by decide +kernel
theorem d_PD_become_72 : decode b_PD_become 72 = .ok (.aload_n 2, 1) := by decide +kernel
theorem d_PD_become_73 : decode b_PD_become 73 = .ok (.getfield 91, 3) := by decide +kernel
theorem d_PD_become_76 : decode b_PD_become 76 = .ok (.putfield 91, 3) := by decide +kernel
theorem d_PD_become_79 : decode b_PD_become 79 = .ok (.return_, 1) := by decide +kernel
theorem d_PD_settle_0 : decode b_PD_settle 0 = .ok (.aload_n 0, 1) := by decide +kernel
theorem d_PD_settle_1 : decode b_PD_settle 1 = .ok (.aload_n 1, 1) := by decide +kernel
theorem d_PD_settle_2 : decode b_PD_settle 2 = .ok (.getfield 112, 3) := by decide +kernel
theorem d_PD_settle_5 : decode b_PD_settle 5 = .ok (.aload_n 1, 1) := by decide +kernel
theorem d_PD_settle_6 : decode b_PD_settle 6 = .ok (.getfield 63, 3) := by decide +kernel
theorem d_PD_settle_9 : decode b_PD_settle 9 = .ok (.invokevirtual 108, 3) := by decide +kernel
theorem d_PD_settle_12 : decode b_PD_settle 12 = .ok (.aload_n 1, 1) := by decide +kernel
theorem d_PD_settle_13 : decode b_PD_settle 13 = .ok (.aload_n 1, 1) := by decide +kernel
theorem d_PD_settle_14 : decode b_PD_settle 14 = .ok (.getfield 63, 3) := by decide +kernel
theorem d_PD_settle_17 : decode b_PD_settle 17 = .ok (.getfield 67, 3) := by decide +kernel
theorem d_PD_settle_20 : decode b_PD_settle 20 = .ok (.putfield 105, 3) := by decide +kernel
theorem d_PD_settle_23 : decode b_PD_settle 23 = .ok (.return_, 1) := by decide +kernel
theorem d_PD_fall_0 : decode b_PD_fall 0 = .ok (.iload_n 2, 1) := by decide +kernel
theorem d_PD_fall_1 : decode b_PD_fall 1 = .ok (.ifCond .ne 18, 3) := by decide +kernel
theorem d_PD_fall_4 : decode b_PD_fall 4 = .ok (.aload_n 0, 1) := by decide +kernel
theorem d_PD_fall_5 : decode b_PD_fall 5 = .ok (.aload_n 1, 1) := by decide +kernel
theorem d_PD_fall_6 : decode b_PD_fall 6 = .ok (.getfield 63, 3) := by decide +kernel
theorem d_PD_fall_9 : decode b_PD_fall 9 = .ok (.aload_n 1, 1) := by decide +kernel
theorem d_PD_fall_10 : decode b_PD_fall 10 = .ok (.getfield 112, 3) := by decide +kernel
theorem d_PD_fall_13 : decode b_PD_fall 13 = .ok (.invokevirtual 108, 3) := by decide +kernel
theorem d_PD_fall_16 : decode b_PD_fall 16 = .ok (.goto 37, 3) := by decide +kernel
theorem d_PD_fall_19 : decode b_PD_fall 19 = .ok (.aload_n 1, 1) := by decide +kernel
theorem d_PD_fall_20 : decode b_PD_fall 20 = .ok (.getfield 63, 3) := by decide +kernel
theorem d_PD_fall_23 : decode b_PD_fall 23 = .ok (.getfield 67, 3) := by decide +kernel
theorem d_PD_fall_26 : decode b_PD_fall 26 = .ok (.aload_n 1, 1) := by decide +kernel
theorem d_PD_fall_27 : decode b_PD_fall 27 = .ok (.getfield 105, 3) := by decide +kernel
theorem d_PD_fall_30 : decode b_PD_fall 30 = .ok (.isub, 1) := by decide +kernel
theorem d_PD_fall_31 : decode b_PD_fall 31 = .ok (.iload_n 2, 1) := by decide +kernel
theorem d_PD_fall_32 : decode b_PD_fall 32 = .ok (.iconst 1, 1) := by decide +kernel
theorem d_PD_fall_33 : decode b_PD_fall 33 = .ok (.isub, 1) := by decide +kernel
theorem d_PD_fall_34 : decode b_PD_fall 34 = .ok (.if_icmp .le 19, 3) := by decide +kernel
theorem d_PD_fall_37 : decode b_PD_fall 37 = .ok (.aload_n 0, 1) := by decide +kernel
theorem d_PD_fall_38 : decode b_PD_fall 38 = .ok (.aload_n 1, 1) := by decide +kernel
theorem d_PD_fall_39 : decode b_PD_fall 39 = .ok (.getfield 63, 3) := by decide +kernel
theorem d_PD_fall_42 : decode b_PD_fall 42 = .ok (.aload_n 1, 1) := by decide +kernel
theorem d_PD_fall_43 : decode b_PD_fall 43 = .ok (.getfield 105, 3) := by decide +kernel
theorem d_PD_fall_46 : decode b_PD_fall 46 = .ok (.iload_n 2, 1) := by decide +kernel
theorem d_PD_fall_47 : decode b_PD_fall 47 = .ok (.iadd, 1) := by decide +kernel
theorem d_PD_fall_48 : decode b_PD_fall 48 = .ok (.iconst 1, 1) := by decide +kernel
theorem d_PD_fall_49 : decode b_PD_fall 49 = .ok (.isub, 1) := by decide +kernel
theorem d_PD_fall_50 : decode b_PD_fall 50 = .ok (.invokevirtual 102, 3) := by decide +kernel
theorem d_PD_fall_53 : decode b_PD_fall 53 = .ok (.aload_n 0, 1) := by decide +kernel
theorem d_PD_fall_54 : decode b_PD_fall 54 = .ok (.aload_n 1, 1) := by decide +kernel
theorem d_PD_fall_55 : decode b_PD_fall 55 = .ok (.invokevirtual 119, 3) := by decide +kernel
theorem d_PD_fall_58 : decode b_PD_fall 58 = .ok (.return_, 1) := by decide +kernel
theorem d_PD_keepOf_0 : decode b_PD_keepOf 0 = .ok (.lload_n 0, 1) := by decide +kernel
theorem d_PD_keepOf_1 : decode b_PD_keepOf 1 = .ok (.bipush 61, 2) := by decide +kernel
theorem d_PD_keepOf_3 : decode b_PD_keepOf 3 = .ok (.lushr, 1) := by decide +kernel
theorem d_PD_keepOf_4 : decode b_PD_keepOf 4 = .ok (.lconst 0, 1) := by decide +kernel
theorem d_PD_keepOf_5 : decode b_PD_keepOf 5 = .ok (.lcmp, 1) := by decide +kernel
theorem d_PD_keepOf_6 : decode b_PD_keepOf 6 = .ok (.ifCond .ne 5, 3) := by decide +kernel
theorem d_PD_keepOf_9 : decode b_PD_keepOf 9 = .ok (.iconst 0, 1) := by decide +kernel
theorem d_PD_keepOf_10 : decode b_PD_keepOf 10 = .ok (.ireturn, 1) := by decide +kernel
theorem d_PD_keepOf_11 : decode b_PD_keepOf 11 = .ok (.lload_n 0, 1) := by decide +kernel
theorem d_PD_keepOf_12 : decode b_PD_keepOf 12 = .ok (.bipush 33, 2) := by decide +kernel
theorem d_PD_keepOf_14 : decode b_PD_keepOf 14 = .ok (.lushr, 1) := by decide +kernel
theorem d_PD_keepOf_15 : decode b_PD_keepOf 15 = .ok (.ldc2_w 196, 3) := by decide +kernel
theorem d_PD_keepOf_18 : decode b_PD_keepOf 18 = .ok (.land, 1) := by decide +kernel
theorem d_PD_keepOf_19 : decode b_PD_keepOf 19 = .ok (.l2i, 1) := by decide +kernel
theorem d_PD_keepOf_20 : decode b_PD_keepOf 20 = .ok (.istore_n 3, 1) := by decide +kernel
theorem d_PD_keepOf_21 : decode b_PD_keepOf 21 = .ok (.iconst 1, 1) := by decide +kernel
theorem d_PD_keepOf_22 : decode b_PD_keepOf 22 = .ok (.iconst 2, 1) := by decide +kernel
theorem d_PD_keepOf_23 : decode b_PD_keepOf 23 = .ok (.aload_n 2, 1) := by decide +kernel
theorem d_PD_keepOf_24 : decode b_PD_keepOf 24 = .ok (.getfield 63, 3) := by decide +kernel
theorem d_PD_keepOf_27 : decode b_PD_keepOf 27 = .ok (.getfield 67, 3) := by decide +kernel
theorem d_PD_keepOf_30 : decode b_PD_keepOf 30 = .ok (.aload_n 2, 1) := by decide +kernel
theorem d_PD_keepOf_31 : decode b_PD_keepOf 31 = .ok (.getfield 105, 3) := by decide +kernel
theorem d_PD_keepOf_34 : decode b_PD_keepOf 34 = .ok (.isub, 1) := by decide +kernel
theorem d_PD_keepOf_35 : decode b_PD_keepOf 35 = .ok (.imul, 1) := by decide +kernel
theorem d_PD_keepOf_36 : decode b_PD_keepOf 36 = .ok (.iconst 1, 1) := by decide +kernel
theorem d_PD_keepOf_37 : decode b_PD_keepOf 37 = .ok (.iadd, 1) := by decide +kernel
theorem d_PD_keepOf_38 : decode b_PD_keepOf 38 = .ok (.invokestatic 17, 3) := by decide +kernel
theorem d_PD_keepOf_41 : decode b_PD_keepOf 41 = .ok (.istore 4, 2) := by decide +kernel
theorem d_PD_keepOf_43 : decode b_PD_keepOf 43 = .ok (.iconst 1, 1) := by decide +kernel
theorem d_PD_keepOf_44 : decode b_PD_keepOf 44 = .ok (.iload_n 3, 1) := by decide +kernel
theorem d_PD_keepOf_45 : decode b_PD_keepOf 45 = .ok (.iload 4, 2) := by decide +kernel
theorem d_PD_keepOf_47 : decode b_PD_keepOf 47 = .ok (.irem, 1) := by decide +kernel
theorem d_PD_keepOf_48 : decode b_PD_keepOf 48 = .ok (.iadd, 1) := by decide +kernel
theorem d_PD_keepOf_49 : decode b_PD_keepOf 49 = .ok (.ireturn, 1) := by decide +kernel
theorem d_PD_pagesNotIn_0 : decode b_PD_pagesNotIn 0 = .ok (.aload_n 0, 1) := by decide +kernel
theorem d_PD_pagesNotIn_1 : decode b_PD_pagesNotIn 1 = .ok (.getfield 67, 3) := by decide +kernel
theorem d_PD_pagesNotIn_4 : decode b_PD_pagesNotIn 4 = .ok (.invokestatic 143, 3) := by decide +kernel
theorem d_PD_pagesNotIn_7 : decode b_PD_pagesNotIn 7 = .ok (.istore_n 2, 1) := by decide +kernel
theorem d_PD_pagesNotIn_8 : decode b_PD_pagesNotIn 8 = .ok (.iconst 0, 1) := by decide +kernel
theorem d_PD_pagesNotIn_9 : decode b_PD_pagesNotIn 9 = .ok (.istore_n 3, 1) := by decide +kernel
theorem d_PD_pagesNotIn_10 : decode b_PD_pagesNotIn 10 = .ok (.iconst 0, 1) := by decide +kernel
theorem d_PD_pagesNotIn_11 : decode b_PD_pagesNotIn 11 = .ok (.istore 4, 2) := by decide +kernel
theorem d_PD_pagesNotIn_13 : decode b_PD_pagesNotIn 13 = .ok (.iload 4, 2) := by decide +kernel
theorem d_PD_pagesNotIn_15 : decode b_PD_pagesNotIn 15 = .ok (.aload_n 1, 1) := by decide +kernel
theorem d_PD_pagesNotIn_16 : decode b_PD_pagesNotIn 16 = .ok (.getfield 67, 3) := by decide +kernel
theorem d_PD_pagesNotIn_19 : decode b_PD_pagesNotIn 19 = .ok (.invokestatic 143, 3) := by decide +kernel
theorem d_PD_pagesNotIn_22 : decode b_PD_pagesNotIn 22 = .ok (.if_icmp .ge 35, 3) := by decide +kernel
theorem d_PD_pagesNotIn_25 : decode b_PD_pagesNotIn 25 = .ok (.iload 4, 2) := by decide +kernel
theorem d_PD_pagesNotIn_27 : decode b_PD_pagesNotIn 27 = .ok (.iload_n 2, 1) := by decide +kernel
theorem d_PD_pagesNotIn_28 : decode b_PD_pagesNotIn 28 = .ok (.if_icmp .ge 20, 3) := by decide +kernel
theorem d_PD_pagesNotIn_31 : decode b_PD_pagesNotIn 31 = .ok (.aload_n 1, 1) := by decide +kernel
theorem d_PD_pagesNotIn_32 : decode b_PD_pagesNotIn 32 = .ok (.getfield 171, 3) := by decide +kernel
theorem d_PD_pagesNotIn_35 : decode b_PD_pagesNotIn 35 = .ok (.iload 4, 2) := by decide +kernel
theorem d_PD_pagesNotIn_37 : decode b_PD_pagesNotIn 37 = .ok (.iaload, 1) := by decide +kernel
theorem d_PD_pagesNotIn_38 : decode b_PD_pagesNotIn 38 = .ok (.aload_n 0, 1) := by decide +kernel
theorem d_PD_pagesNotIn_39 : decode b_PD_pagesNotIn 39 = .ok (.getfield 171, 3) := by decide +kernel
theorem d_PD_pagesNotIn_42 : decode b_PD_pagesNotIn 42 = .ok (.iload 4, 2) := by decide +kernel
theorem d_PD_pagesNotIn_44 : decode b_PD_pagesNotIn 44 = .ok (.iaload, 1) := by decide +kernel
theorem d_PD_pagesNotIn_45 : decode b_PD_pagesNotIn 45 = .ok (.if_icmp .eq 6, 3) := by decide +kernel
theorem d_PD_pagesNotIn_48 : decode b_PD_pagesNotIn 48 = .ok (.iinc 3 1, 3) := by decide +kernel
theorem d_PD_pagesNotIn_51 : decode b_PD_pagesNotIn 51 = .ok (.iinc 4 1, 3) := by decide +kernel
theorem d_PD_pagesNotIn_54 : decode b_PD_pagesNotIn 54 = .ok (.goto (-41), 3) := by decide +kernel
theorem d_PD_pagesNotIn_57 : decode b_PD_pagesNotIn 57 = .ok (.iload_n 3, 1) := by decide +kernel
theorem d_PD_pagesNotIn_58 : decode b_PD_pagesNotIn 58 = .ok (.ireturn, 1) := by decide +kernel
theorem d_PD_sharedPages_0 : decode b_PD_sharedPages 0 = .ok (.iconst 0, 1) := by decide +kernel
theorem d_PD_sharedPages_1 : decode b_PD_sharedPages 1 = .ok (.istore_n 2, 1) := by decide +kernel
theorem d_PD_sharedPages_2 : decode b_PD_sharedPages 2 = .ok (.iconst 0, 1) := by decide +kernel
theorem d_PD_sharedPages_3 : decode b_PD_sharedPages 3 = .ok (.istore_n 3, 1) := by decide +kernel
theorem d_PD_sharedPages_4 : decode b_PD_sharedPages 4 = .ok (.iload_n 3, 1) := by decide +kernel
theorem d_PD_sharedPages_5 : decode b_PD_sharedPages 5 = .ok (.aload_n 1, 1) := by decide +kernel
theorem d_PD_sharedPages_6 : decode b_PD_sharedPages 6 = .ok (.getfield 67, 3) := by decide +kernel
theorem d_PD_sharedPages_9 : decode b_PD_sharedPages 9 = .ok (.invokestatic 143, 3) := by decide +kernel
theorem d_PD_sharedPages_12 : decode b_PD_sharedPages 12 = .ok (.if_icmp .ge 28, 3) := by decide +kernel
theorem d_PD_sharedPages_15 : decode b_PD_sharedPages 15 = .ok (.aload_n 0, 1) := by decide +kernel
theorem d_PD_sharedPages_16 : decode b_PD_sharedPages 16 = .ok (.getfield 23, 3) := by decide +kernel
theorem d_PD_sharedPages_19 : decode b_PD_sharedPages 19 = .ok (.aload_n 1, 1) := by decide +kernel
theorem d_PD_sharedPages_20 : decode b_PD_sharedPages 20 = .ok (.getfield 171, 3) := by decide +kernel
theorem d_PD_sharedPages_23 : decode b_PD_sharedPages 23 = .ok (.iload_n 3, 1) := by decide +kernel
theorem d_PD_sharedPages_24 : decode b_PD_sharedPages 24 = .ok (.iaload, 1) := by decide +kernel
theorem d_PD_sharedPages_25 : decode b_PD_sharedPages 25 = .ok (.invokevirtual 175, 3) := by decide +kernel
theorem d_PD_sharedPages_28 : decode b_PD_sharedPages 28 = .ok (.ifCond .eq 6, 3) := by decide +kernel
theorem d_PD_sharedPages_31 : decode b_PD_sharedPages 31 = .ok (.iinc 2 1, 3) := by decide +kernel
theorem d_PD_sharedPages_34 : decode b_PD_sharedPages 34 = .ok (.iinc 3 1, 3) := by decide +kernel
theorem d_PD_sharedPages_37 : decode b_PD_sharedPages 37 = .ok (.goto (-33), 3) := by decide +kernel
theorem d_PD_sharedPages_40 : decode b_PD_sharedPages 40 = .ok (.iload_n 2, 1) := by decide +kernel
theorem d_PD_sharedPages_41 : decode b_PD_sharedPages 41 = .ok (.ireturn, 1) := by decide +kernel
theorem d_CO_init_0 : decode b_CO_init 0 = .ok (.aload_n 0, 1) := by decide +kernel
theorem d_CO_init_1 : decode b_CO_init 1 = .ok (.invokespecial 3, 3) := by decide +kernel
theorem d_CO_init_4 : decode b_CO_init 4 = .ok (.aload_n 0, 1) := by decide +kernel
theorem d_CO_init_5 : decode b_CO_init 5 = .ok (.sipush 400, 3) := by decide +kernel
theorem d_CO_init_8 : decode b_CO_init 8 = .ok (.newarray .int, 2) := by decide +kernel
theorem d_CO_init_10 : decode b_CO_init 10 = .ok (.putfield 9, 3) := by decide +kernel
theorem d_CO_init_13 : decode b_CO_init 13 = .ok (.aload_n 0, 1) := by decide +kernel
theorem d_CO_init_14 : decode b_CO_init 14 = .ok (.iconst 0, 1) := by decide +kernel
theorem d_CO_init_15 : decode b_CO_init 15 = .ok (.putfield 15, 3) := by decide +kernel
theorem d_CO_init_18 : decode b_CO_init 18 = .ok (.aload_n 0, 1) := by decide +kernel
theorem d_CO_init_19 : decode b_CO_init 19 = .ok (.iconst 0, 1) := by decide +kernel
theorem d_CO_init_20 : decode b_CO_init 20 = .ok (.putfield 19, 3) := by decide +kernel
theorem d_CO_init_23 : decode b_CO_init 23 = .ok (.return_, 1) := by decide +kernel
theorem d_CO_placeOf_0 : decode b_CO_placeOf 0 = .ok (.aload_n 0, 1) := by decide +kernel
theorem d_CO_placeOf_1 : decode b_CO_placeOf 1 = .ok (.getfield 9, 3) := by decide +kernel
theorem d_CO_placeOf_4 : decode b_CO_placeOf 4 = .ok (.iload_n 1, 1) := by decide +kernel
theorem d_CO_placeOf_5 : decode b_CO_placeOf 5 = .ok (.bipush 64, 2) := by decide +kernel
theorem d_CO_placeOf_7 : decode b_CO_placeOf 7 = .ok (.idiv, 1) := by decide +kernel
theorem d_CO_placeOf_8 : decode b_CO_placeOf 8 = .ok (.iaload, 1) := by decide +kernel
theorem d_CO_placeOf_9 : decode b_CO_placeOf 9 = .ok (.bipush 64, 2) := by decide +kernel
theorem d_CO_placeOf_11 : decode b_CO_placeOf 11 = .ok (.imul, 1) := by decide +kernel
theorem d_CO_placeOf_12 : decode b_CO_placeOf 12 = .ok (.iload_n 1, 1) := by decide +kernel
theorem d_CO_placeOf_13 : decode b_CO_placeOf 13 = .ok (.bipush 64, 2) := by decide +kernel
theorem d_CO_placeOf_15 : decode b_CO_placeOf 15 = .ok (.irem, 1) := by decide +kernel
theorem d_CO_placeOf_16 : decode b_CO_placeOf 16 = .ok (.iadd, 1) := by decide +kernel
theorem d_CO_placeOf_17 : decode b_CO_placeOf 17 = .ok (.ireturn, 1) := by decide +kernel
theorem d_EN_init_0 : decode b_EN_init 0 = .ok (.aload_n 0, 1) := by decide +kernel
theorem d_EN_init_1 : decode b_EN_init 1 = .ok (.invokespecial 1, 3) := by decide +kernel
theorem d_EN_init_4 : decode b_EN_init 4 = .ok (.aload_n 0, 1) := by decide +kernel
theorem d_EN_init_5 : decode b_EN_init 5 = .ok (.new 7, 3) := by decide +kernel
theorem d_EN_init_8 : decode b_EN_init 8 = .ok (.dup, 1) := by decide +kernel
theorem d_EN_init_9 : decode b_EN_init 9 = .ok (.invokespecial 9, 3) := by decide +kernel
theorem d_EN_init_12 : decode b_EN_init 12 = .ok (.putfield 10, 3) := by decide +kernel
theorem d_EN_init_15 : decode b_EN_init 15 = .ok (.aload_n 0, 1) := by decide +kernel
theorem d_EN_init_16 : decode b_EN_init 16 = .ok (.new 7, 3) := by decide +kernel
theorem d_EN_init_19 : decode b_EN_init 19 = .ok (.dup, 1) := by decide +kernel
theorem d_EN_init_20 : decode b_EN_init 20 = .ok (.invokespecial 9, 3) := by decide +kernel
theorem d_EN_init_23 : decode b_EN_init 23 = .ok (.putfield 16, 3) := by decide +kernel
theorem d_EN_init_26 : decode b_EN_init 26 = .ok (.aload_n 0, 1) := by decide +kernel
theorem d_EN_init_27 : decode b_EN_init 27 = .ok (.iconst 0, 1) := by decide +kernel
theorem d_EN_init_28 : decode b_EN_init 28 = .ok (.putfield 19, 3) := by decide +kernel
theorem d_EN_init_31 : decode b_EN_init 31 = .ok (.return_, 1) := by decide +kernel
theorem d_PO_init_0 : decode b_PO_init 0 = .ok (.aload_n 0, 1) := by decide +kernel
theorem d_PO_init_1 : decode b_PO_init 1 = .ok (.invokespecial 3, 3) := by decide +kernel
theorem d_PO_init_4 : decode b_PO_init 4 = .ok (.aload_n 0, 1) := by decide +kernel
theorem d_PO_init_5 : decode b_PO_init 5 = .ok (.iload_n 1, 1) := by decide +kernel
theorem d_PO_init_6 : decode b_PO_init 6 = .ok (.putfield 9, 3) := by decide +kernel
theorem d_PO_init_9 : decode b_PO_init 9 = .ok (.aload_n 0, 1) := by decide +kernel
theorem d_PO_init_10 : decode b_PO_init 10 = .ok (.iload_n 1, 1) := by decide +kernel
theorem d_PO_init_11 : decode b_PO_init 11 = .ok (.bipush 64, 2) := by decide +kernel
theorem d_PO_init_13 : decode b_PO_init 13 = .ok (.imul, 1) := by decide +kernel
theorem d_PO_init_14 : decode b_PO_init 14 = .ok (.newarray .byte, 2) := by decide +kernel
theorem d_PO_init_16 : decode b_PO_init 16 = .ok (.putfield 15, 3) := by decide +kernel
theorem d_PO_init_19 : decode b_PO_init 19 = .ok (.aload_n 0, 1) := by decide +kernel
theorem d_PO_init_20 : decode b_PO_init 20 = .ok (.iload_n 1, 1) := by decide +kernel
theorem d_PO_init_21 : decode b_PO_init 21 = .ok (.newarray .int, 2) := by decide +kernel
theorem d_PO_init_23 : decode b_PO_init 23 = .ok (.putfield 19, 3) := by decide +kernel
theorem d_PO_init_26 : decode b_PO_init 26 = .ok (.aload_n 0, 1) := by decide +kernel
theorem d_PO_init_27 : decode b_PO_init 27 = .ok (.iload_n 1, 1) := by decide +kernel
theorem d_PO_init_28 : decode b_PO_init 28 = .ok (.newarray .int, 2) := by decide +kernel
theorem d_PO_init_30 : decode b_PO_init 30 = .ok (.putfield 23, 3) := by decide +kernel
theorem d_PO_init_33 : decode b_PO_init 33 = .ok (.iconst 0, 1) := by decide +kernel
theorem d_PO_init_34 : decode b_PO_init 34 = .ok (.istore_n 2, 1) := by decide +kernel
theorem d_PO_init_35 : decode b_PO_init 35 = .ok (.iload_n 2, 1) := by decide +kernel
theorem d_PO_init_36 : decode b_PO_init 36 = .ok (.iload_n 1, 1) := by decide +kernel
theorem d_PO_init_37 : decode b_PO_init 37 = .ok (.if_icmp .ge 16, 3) := by decide +kernel
theorem d_PO_init_40 : decode b_PO_init 40 = .ok (.aload_n 0, 1) := by decide +kernel
theorem d_PO_init_41 : decode b_PO_init 41 = .ok (.getfield 23, 3) := by decide +kernel
theorem d_PO_init_44 : decode b_PO_init 44 = .ok (.iload_n 2, 1) := by decide +kernel
theorem d_PO_init_45 : decode b_PO_init 45 = .ok (.iload_n 2, 1) := by decide +kernel
theorem d_PO_init_46 : decode b_PO_init 46 = .ok (.iastore, 1) := by decide +kernel
theorem d_PO_init_47 : decode b_PO_init 47 = .ok (.iinc 2 1, 3) := by decide +kernel
theorem d_PO_init_50 : decode b_PO_init 50 = .ok (.goto (-15), 3) := by decide +kernel
theorem d_PO_init_53 : decode b_PO_init 53 = .ok (.aload_n 0, 1) := by decide +kernel
theorem d_PO_init_54 : decode b_PO_init 54 = .ok (.iload_n 1, 1) := by decide +kernel
theorem d_PO_init_55 : decode b_PO_init 55 = .ok (.putfield 26, 3) := by decide +kernel
theorem d_PO_init_58 : decode b_PO_init 58 = .ok (.aload_n 0, 1) := by decide +kernel
theorem d_PO_init_59 : decode b_PO_init 59 = .ok (.iconst 0, 1) := by decide +kernel
theorem d_PO_init_60 : decode b_PO_init 60 = .ok (.putfield 29, 3) := by decide +kernel
theorem d_PO_init_63 : decode b_PO_init 63 = .ok (.return_, 1) := by decide +kernel
theorem d_PO_isShared_0 : decode b_PO_isShared 0 = .ok (.aload_n 0, 1) := by decide +kernel
theorem d_PO_isShared_1 : decode b_PO_isShared 1 = .ok (.getfield 19, 3) := by decide +kernel
theorem d_PO_isShared_4 : decode b_PO_isShared 4 = .ok (.iload_n 1, 1) := by decide +kernel
theorem d_PO_isShared_5 : decode b_PO_isShared 5 = .ok (.iaload, 1) := by decide +kernel
theorem d_PO_isShared_6 : decode b_PO_isShared 6 = .ok (.iconst 1, 1) := by decide +kernel
theorem d_PO_isShared_7 : decode b_PO_isShared 7 = .ok (.if_icmp .le 7, 3) := by decide +kernel
theorem d_PO_isShared_10 : decode b_PO_isShared 10 = .ok (.iconst 1, 1) := by decide +kernel
theorem d_PO_isShared_11 : decode b_PO_isShared 11 = .ok (.goto 4, 3) := by decide +kernel
theorem d_PO_isShared_14 : decode b_PO_isShared 14 = .ok (.iconst 0, 1) := by decide +kernel
theorem d_PO_isShared_15 : decode b_PO_isShared 15 = .ok (.ireturn, 1) := by decide +kernel
theorem d_PO_take_0 : decode b_PO_take 0 = .ok (.aload_n 0, 1) := by decide +kernel
theorem d_PO_take_1 : decode b_PO_take 1 = .ok (.dup, 1) := by decide +kernel
theorem d_PO_take_2 : decode b_PO_take 2 = .ok (.getfield 26, 3) := by decide +kernel
theorem d_PO_take_5 : decode b_PO_take 5 = .ok (.iconst 1, 1) := by decide +kernel
theorem d_PO_take_6 : decode b_PO_take 6 = .ok (.isub, 1) := by decide +kernel
theorem d_PO_take_7 : decode b_PO_take 7 = .ok (.putfield 26, 3) := by decide +kernel
theorem d_PO_take_10 : decode b_PO_take 10 = .ok (.aload_n 0, 1) := by decide +kernel
theorem d_PO_take_11 : decode b_PO_take 11 = .ok (.getfield 23, 3) := by decide +kernel
theorem d_PO_take_14 : decode b_PO_take 14 = .ok (.aload_n 0, 1) := by decide +kernel
theorem d_PO_take_15 : decode b_PO_take 15 = .ok (.getfield 26, 3) := by decide +kernel
theorem d_PO_take_18 : decode b_PO_take 18 = .ok (.iaload, 1) := by decide +kernel
theorem d_PO_take_19 : decode b_PO_take 19 = .ok (.istore_n 1, 1) := by decide +kernel
theorem d_PO_take_20 : decode b_PO_take 20 = .ok (.aload_n 0, 1) := by decide +kernel
theorem d_PO_take_21 : decode b_PO_take 21 = .ok (.getfield 19, 3) := by decide +kernel
theorem d_PO_take_24 : decode b_PO_take 24 = .ok (.iload_n 1, 1) := by decide +kernel
theorem d_PO_take_25 : decode b_PO_take 25 = .ok (.iconst 1, 1) := by decide +kernel
theorem d_PO_take_26 : decode b_PO_take 26 = .ok (.iastore, 1) := by decide +kernel
theorem d_PO_take_27 : decode b_PO_take 27 = .ok (.iload_n 1, 1) := by decide +kernel
theorem d_PO_take_28 : decode b_PO_take 28 = .ok (.ireturn, 1) := by decide +kernel
theorem d_PO_join_0 : decode b_PO_join 0 = .ok (.aload_n 0, 1) := by decide +kernel
theorem d_PO_join_1 : decode b_PO_join 1 = .ok (.getfield 19, 3) := by decide +kernel
theorem d_PO_join_4 : decode b_PO_join 4 = .ok (.iload_n 1, 1) := by decide +kernel
theorem d_PO_join_5 : decode b_PO_join 5 = .ok (.dup2, 1) := by decide +kernel
theorem d_PO_join_6 : decode b_PO_join 6 = .ok (.iaload, 1) := by decide +kernel
theorem d_PO_join_7 : decode b_PO_join 7 = .ok (.iconst 1, 1) := by decide +kernel
theorem d_PO_join_8 : decode b_PO_join 8 = .ok (.iadd, 1) := by decide +kernel
theorem d_PO_join_9 : decode b_PO_join 9 = .ok (.iastore, 1) := by decide +kernel
theorem d_PO_join_10 : decode b_PO_join 10 = .ok (.return_, 1) := by decide +kernel
theorem d_PO_leave_0 : decode b_PO_leave 0 = .ok (.aload_n 0, 1) := by decide +kernel
theorem d_PO_leave_1 : decode b_PO_leave 1 = .ok (.getfield 19, 3) := by decide +kernel
theorem d_PO_leave_4 : decode b_PO_leave 4 = .ok (.iload_n 1, 1) := by decide +kernel
theorem d_PO_leave_5 : decode b_PO_leave 5 = .ok (.dup2, 1) := by decide +kernel
theorem d_PO_leave_6 : decode b_PO_leave 6 = .ok (.iaload, 1) := by decide +kernel
theorem d_PO_leave_7 : decode b_PO_leave 7 = .ok (.iconst 1, 1) := by decide +kernel
theorem d_PO_leave_8 : decode b_PO_leave 8 = .ok (.isub, 1) := by decide +kernel
theorem d_PO_leave_9 : decode b_PO_leave 9 = .ok (.iastore, 1) := by decide +kernel
theorem d_PO_leave_10 : decode b_PO_leave 10 = .ok (.aload_n 0, 1) := by decide +kernel
theorem d_PO_leave_11 : decode b_PO_leave 11 = .ok (.getfield 19, 3) := by decide +kernel
theorem d_PO_leave_14 : decode b_PO_leave 14 = .ok (.iload_n 1, 1) := by decide +kernel
theorem d_PO_leave_15 : decode b_PO_leave 15 = .ok (.iaload, 1) := by decide +kernel
theorem d_PO_leave_16 : decode b_PO_leave 16 = .ok (.ifCond .ne 23, 3) := by decide +kernel
theorem d_PO_leave_19 : decode b_PO_leave 19 = .ok (.aload_n 0, 1) := by decide +kernel
theorem d_PO_leave_20 : decode b_PO_leave 20 = .ok (.getfield 23, 3) := by decide +kernel
theorem d_PO_leave_23 : decode b_PO_leave 23 = .ok (.aload_n 0, 1) := by decide +kernel
theorem d_PO_leave_24 : decode b_PO_leave 24 = .ok (.getfield 26, 3) := by decide +kernel
theorem d_PO_leave_27 : decode b_PO_leave 27 = .ok (.iload_n 1, 1) := by decide +kernel
theorem d_PO_leave_28 : decode b_PO_leave 28 = .ok (.iastore, 1) := by decide +kernel
theorem d_PO_leave_29 : decode b_PO_leave 29 = .ok (.aload_n 0, 1) := by decide +kernel
theorem d_PO_leave_30 : decode b_PO_leave 30 = .ok (.dup, 1) := by decide +kernel
theorem d_PO_leave_31 : decode b_PO_leave 31 = .ok (.getfield 26, 3) := by decide +kernel
theorem d_PO_leave_34 : decode b_PO_leave 34 = .ok (.iconst 1, 1) := by decide +kernel
theorem d_PO_leave_35 : decode b_PO_leave 35 = .ok (.iadd, 1) := by decide +kernel
theorem d_PO_leave_36 : decode b_PO_leave 36 = .ok (.putfield 26, 3) := by decide +kernel
theorem d_PO_leave_39 : decode b_PO_leave 39 = .ok (.return_, 1) := by decide +kernel
theorem d_PO_exchangeForCopy_0 : decode b_PO_exchangeForCopy 0 = .ok (.aload_n 0, 1) := by decide +kernel
theorem d_PO_exchangeForCopy_1 : decode b_PO_exchangeForCopy 1 = .ok (.invokevirtual 32, 3) := by decide +kernel
theorem d_PO_exchangeForCopy_4 : decode b_PO_exchangeForCopy 4 = .ok (.istore_n 2, 1) := by decide +kernel
theorem d_PO_exchangeForCopy_5 : decode b_PO_exchangeForCopy 5 = .ok (.aload_n 0, 1) := by decide +kernel
theorem d_PO_exchangeForCopy_6 : decode b_PO_exchangeForCopy 6 = .ok (.getfield 15, 3) := by decide +kernel
theorem d_PO_exchangeForCopy_9 : decode b_PO_exchangeForCopy 9 = .ok (.iload_n 1, 1) := by decide +kernel
theorem d_PO_exchangeForCopy_10 : decode b_PO_exchangeForCopy 10 = .ok (.bipush 64, 2) := by decide +kernel
theorem d_PO_exchangeForCopy_12 : decode b_PO_exchangeForCopy 12 = .ok (.imul, 1) := by decide +kernel
theorem d_PO_exchangeForCopy_13 : decode b_PO_exchangeForCopy 13 = .ok (.aload_n 0, 1) := by decide +kernel
theorem d_PO_exchangeForCopy_14 : decode b_PO_exchangeForCopy 14 = .ok (.getfield 15, 3) := by decide +kernel
theorem d_PO_exchangeForCopy_17 : decode b_PO_exchangeForCopy 17 = .ok (.iload_n 2, 1) := by decide +kernel
theorem d_PO_exchangeForCopy_18 : decode b_PO_exchangeForCopy 18 = .ok (.bipush 64, 2) := by decide +kernel
theorem d_PO_exchangeForCopy_20 : decode b_PO_exchangeForCopy 20 = .ok (.imul, 1) := by decide +kernel
theorem d_PO_exchangeForCopy_21 : decode b_PO_exchangeForCopy 21 = .ok (.bipush 64, 2) := by decide +kernel
theorem d_PO_exchangeForCopy_23 : decode b_PO_exchangeForCopy 23 = .ok (.invokestatic 36, 3) := by decide +kernel
theorem d_PO_exchangeForCopy_26 : decode b_PO_exchangeForCopy 26 = .ok (.aload_n 0, 1) := by decide +kernel
theorem d_PO_exchangeForCopy_27 : decode b_PO_exchangeForCopy 27 = .ok (.iload_n 1, 1) := by decide +kernel
theorem d_PO_exchangeForCopy_28 : decode b_PO_exchangeForCopy 28 = .ok (.invokevirtual 42, 3) := by decide +kernel
theorem d_PO_exchangeForCopy_31 : decode b_PO_exchangeForCopy 31 = .ok (.aload_n 0, 1) := by decide +kernel
theorem d_PO_exchangeForCopy_32 : decode b_PO_exchangeForCopy 32 = .ok (.dup, 1) := by decide +kernel
theorem d_PO_exchangeForCopy_33 : decode b_PO_exchangeForCopy 33 = .ok (.getfield 29, 3) := by decide +kernel
theorem d_PO_exchangeForCopy_36 : decode b_PO_exchangeForCopy 36 = .ok (.iconst 1, 1) := by decide +kernel
theorem d_PO_exchangeForCopy_37 : decode b_PO_exchangeForCopy 37 = .ok (.iadd, 1) := by decide +kernel
theorem d_PO_exchangeForCopy_38 : decode b_PO_exchangeForCopy 38 = .ok (.putfield 29, 3) := by decide +kernel
theorem d_PO_exchangeForCopy_41 : decode b_PO_exchangeForCopy 41 = .ok (.iload_n 2, 1) := by decide +kernel
theorem d_PO_exchangeForCopy_42 : decode b_PO_exchangeForCopy 42 = .ok (.ireturn, 1) := by decide +kernel
end
section
def F_PD : u_T := fun k => match k with
  | 0 => ("PageDrive", "pool", "LPageDrive$Pool;", true)
  | 1 => ("PageDrive", "entries", "[LPageDrive$Entry;", true)
  | 2 => ("PageDrive", "tape", "[B", true)
  | _ => ("PageDrive", "taped", "I", false)
def t_PD : Nat → FieldType := fun k => match k with
  | 0 => .object "PageDrive$Pool"
  | 1 => .array (.object "PageDrive$Entry")
  | 2 => .array .byte
  | _ => .int
theorem n_PD : ∀ a, a < 4 → ∀ b, b < 4 → a ≠ b → (F_PD a).2.1 ≠ (F_PD b).2.1 := by decide +kernel
theorem tok_PD : ∀ k, k < 4 → parseFieldDescriptor (F_PD k).2.2.1 = some (t_PD k) := by decide +kernel
theorem iw_PD : ∀ w ∈ u_ws "PageDrive" F_PD 4, w ∈ wsG := by decide +kernel
def F_PO : u_T := fun k => match k with
  | 0 => ("PageDrive$Pool", "pages", "I", true)
  | 1 => ("PageDrive$Pool", "bytes", "[B", true)
  | 2 => ("PageDrive$Pool", "rowsWith", "[I", true)
  | 3 => ("PageDrive$Pool", "unused", "[I", true)
  | 4 => ("PageDrive$Pool", "unusedCount", "I", false)
  | _ => ("PageDrive$Pool", "copied", "I", false)
def t_PO : Nat → FieldType := fun k => match k with
  | 0 => .int
  | 1 => .array .byte
  | 2 => .array .int
  | 3 => .array .int
  | 4 => .int
  | _ => .int
theorem n_PO : ∀ a, a < 6 → ∀ b, b < 6 → a ≠ b → (F_PO a).2.1 ≠ (F_PO b).2.1 := by decide +kernel
theorem tok_PO : ∀ k, k < 6 → parseFieldDescriptor (F_PO k).2.2.1 = some (t_PO k) := by decide +kernel
theorem iw_PO : ∀ w ∈ u_ws "PageDrive$Pool" F_PO 6, w ∈ wsG := by decide +kernel
def F_EN : u_T := fun k => match k with
  | 0 => ("PageDrive$Entry", "now", "LPageDrive$Content;", true)
  | 1 => ("PageDrive$Entry", "synced", "LPageDrive$Content;", true)
  | _ => ("PageDrive$Entry", "low", "I", false)
def t_EN : Nat → FieldType := fun k => match k with
  | 0 => .object "PageDrive$Content"
  | 1 => .object "PageDrive$Content"
  | _ => .int
theorem n_EN : ∀ a, a < 3 → ∀ b, b < 3 → a ≠ b → (F_EN a).2.1 ≠ (F_EN b).2.1 := by decide +kernel
theorem tok_EN : ∀ k, k < 3 → parseFieldDescriptor (F_EN k).2.2.1 = some (t_EN k) := by decide +kernel
theorem iw_EN : ∀ w ∈ u_ws "PageDrive$Entry" F_EN 3, w ∈ wsG := by decide +kernel
def F_CO : u_T := fun k => match k with
  | 0 => ("PageDrive$Content", "row", "[I", true)
  | 1 => ("PageDrive$Content", "size", "I", false)
  | _ => ("PageDrive$Content", "there", "Z", false)
def t_CO : Nat → FieldType := fun k => match k with
  | 0 => .array .int
  | 1 => .int
  | _ => .boolean
theorem n_CO : ∀ a, a < 3 → ∀ b, b < 3 → a ≠ b → (F_CO a).2.1 ≠ (F_CO b).2.1 := by decide +kernel
theorem tok_CO : ∀ k, k < 3 → parseFieldDescriptor (F_CO k).2.2.1 = some (t_CO k) := by decide +kernel
theorem iw_CO : ∀ w ∈ u_ws "PageDrive$Content" F_CO 3, w ∈ wsG := by decide +kernel
def F_MO : u_T := fun k => match k with
  | 0 => ("PageDriveModel", "thrown", "I", false)
  | 1 => ("PageDriveModel", "limit", "I", true)
  | 2 => ("PageDriveModel", "fed", "I", false)
  | 3 => ("PageDriveModel", "tape", "[I", true)
  | 4 => ("PageDriveModel", "pages", "[J", true)
  | 5 => ("PageDriveModel", "rows", "[I", true)
  | 6 => ("PageDriveModel", "sizes", "[I", true)
  | 7 => ("PageDriveModel", "there", "[Z", true)
  | 8 => ("PageDriveModel", "lows", "[I", true)
  | 9 => ("PageDriveModel", "copied", "I", false)
  | _ => ("PageDriveModel", "seen", "[I", true)
def t_MO : Nat → FieldType := fun k => match k with
  | 0 => .int
  | 1 => .int
  | 2 => .int
  | 3 => .array .int
  | 4 => .array .long
  | 5 => .array .int
  | 6 => .array .int
  | 7 => .array .boolean
  | 8 => .array .int
  | 9 => .int
  | _ => .array .int
theorem n_MO : ∀ a, a < 11 → ∀ b, b < 11 → a ≠ b → (F_MO a).2.1 ≠ (F_MO b).2.1 := by decide +kernel
theorem tok_MO : ∀ k, k < 11 → parseFieldDescriptor (F_MO k).2.2.1 = some (t_MO k) := by decide +kernel
theorem iw_MO : ∀ w ∈ u_ws "PageDriveModel" F_MO 11, w ∈ wsG := by decide +kernel
abbrev pwCl : List vw_C := [("PageDrive", F_PD, 4), ("PageDrive$Pool", F_PO, 6), ("PageDrive$Entry", F_EN, 3), ("PageDrive$Content", F_CO, 3), ("PageDriveModel", F_MO, 11)]
section GI
variable {Ts : List Cond}
theorem gi_in {x : Cond} (hs : ∀ w ∈ wsG, w ∈ Ts) (h : x ∈ wsG) : GoodIn Ts (x :: wsG) := fun w hw => by
  rcases List.mem_cons.mp hw with e | h2
  · subst e
    exact ⟨hs _ h, good_of_word (wsG_good _ h)⟩
  · exact ⟨hs _ h2, good_of_word (wsG_good _ h2)⟩
theorem gi_1 {x : Cond} {L : List Cond} (hs : ∀ w ∈ wsG, w ∈ Ts) (h : x ∈ wsG) (hL : GoodIn Ts L) : GoodIn Ts (x :: L) := fun w hw => by
  rcases List.mem_cons.mp hw with e | h2
  · subst e
    exact ⟨hs _ h, good_of_word (wsG_good _ h)⟩
  · exact hL w h2
theorem gi_V {own C : String} {idx : Nat} {y : MethodName} {x : Cond} (hs : ∀ w ∈ wsG, w ∈ Ts) (h1 : Cond.methodLink own idx y ∈ wsG) (h2 : Cond.instanceMethod y ∈ wsG) (h3 : Cond.selects C y y ∈ wsG) (h4 : Cond.initialized C ∈ wsG) (h : x ∈ wsG) : GoodIn Ts (wsV own idx C y (x :: wsG)) := gi_1 hs h1 (gi_1 hs h2 (gi_1 hs h3 (gi_1 hs h4 (gi_in hs h))))
theorem gi_S {own : String} {idx : Nat} {y : MethodName} {x : Cond} (hs : ∀ w ∈ wsG, w ∈ Ts) (h1 : Cond.methodLink own idx y ∈ wsG) (h2 : Cond.static y ∈ wsG) (h4 : Cond.initialized own ∈ wsG) (h : x ∈ wsG) : GoodIn Ts (wsS own idx y (x :: wsG)) := gi_1 hs h1 (gi_1 hs h2 (gi_1 hs h4 (gi_in hs h)))
end GI
theorem hs_c {c : Cond} : ∀ w ∈ wsG, w ∈ c :: wsG := fun _ h => List.mem_cons_of_mem _ h
end
section
/-! PURE, 1: banks of numbers, pages, counts of references, the pool -/
abbrev pdS : Type := Nat → Nat → Nat
def pd_st (S : pdS) (b j v : Nat) : pdS := va_up S b (va_up (S b) j v)
theorem pd_at (S : pdS) (b j v b' j' : Nat) : pd_st S b j v b' j' = if b' = b ∧ j' = j then v else S b' j' := by
  unfold pd_st va_up
  by_cases h : b' = b
  · subst h
    by_cases h2 : j' = j
    · simp [h2]
    · simp [h2]
  · simp [h]
theorem pd_bk (S : pdS) {b j v b' : Nat} (h : b' ≠ b) : pd_st S b j v b' = S b' := by
  unfold pd_st
  rw [va_up_ne _ _ h]
theorem pd_self (S : pdS) (b j v : Nat) : pd_st S b j v b j = v := by
  rw [pd_at, if_pos ⟨rfl, rfl⟩]
theorem pd_ne (S : pdS) {b j v j' : Nat} (h : j' ≠ j) : pd_st S b j v b j' = S b j' := by
  rw [pd_at, if_neg (fun q => h q.2)]
theorem pd_own (S : pdS) (b j v : Nat) : pd_st S b j v b = va_up (S b) j v := by
  unfold pd_st
  rw [va_up_self]
def pd_pf (x : Nat) : Nat := (x + 63) / 64
def pd_rc (r : Nat → Nat) (p : Nat) : Nat → Nat
  | 0 => 0
  | m + 1 => pd_rc r p m + if r m = p then 1 else 0
def pd_sm (f : Nat → Nat) : Nat → Nat
  | 0 => 0
  | m + 1 => pd_sm f m + f m
def pd_nz (f : Nat → Nat) : Nat → Nat
  | 0 => 0
  | m + 1 => pd_nz f m + if 0 < f m then 1 else 0
theorem pd_rc_congr {r r' : Nat → Nat} {p : Nat} : ∀ {m : Nat}, (∀ k, k < m → r k = r' k) → pd_rc r p m = pd_rc r' p m
  | 0, _ => rfl
  | m + 1, h => by
    simp only [pd_rc]
    rw [pd_rc_congr (fun k hk => h k (Nat.lt_succ_of_lt hk)), h m (Nat.lt_succ_self m)]
theorem pd_rc_pos {r : Nat → Nat} {k p : Nat} (hr : r k = p) : ∀ {m : Nat}, k < m → 0 < pd_rc r p m
  | 0, h => absurd h (Nat.not_lt_zero k)
  | m + 1, h => by
    simp only [pd_rc]
    by_cases hk : k = m
    · subst hk
      rw [if_pos hr]
      omega
    · have := pd_rc_pos hr (m := m) (by omega)
      omega
theorem pd_rc_of {r : Nat → Nat} {p : Nat} : ∀ {m : Nat}, 0 < pd_rc r p m → ∃ k, k < m ∧ r k = p
  | 0, h => absurd h (Nat.lt_irrefl 0)
  | m + 1, h => by
    simp only [pd_rc] at h
    by_cases hm : r m = p
    · exact ⟨m, Nat.lt_succ_self m, hm⟩
    · rw [if_neg hm, Nat.add_zero] at h
      obtain ⟨k, h1, h2⟩ := pd_rc_of h
      exact ⟨k, by omega, h2⟩
theorem pd_rc_0 {r : Nat → Nat} {p m : Nat} (h : ∀ k, k < m → r k ≠ p) : pd_rc r p m = 0 := by
  rcases Nat.eq_zero_or_pos (pd_rc r p m) with h0 | h0
  · exact h0
  · obtain ⟨k, h1, h2⟩ := pd_rc_of h0
    exact absurd h2 (h k h1)
theorem pd_rc_add (r : Nat → Nat) (p a : Nat) : ∀ b, pd_rc r p (a + b) = pd_rc r p a + pd_rc (fun j => r (a + j)) p b
  | 0 => rfl
  | b + 1 => by
    rw [← Nat.add_assoc]
    simp only [pd_rc]
    rw [pd_rc_add r p a b, Nat.add_assoc]
theorem pd_rc_le1 {r : Nat → Nat} {p : Nat} : ∀ {m : Nat}, (∀ i j, i < m → j < m → r i = p → r j = p → i = j) → pd_rc r p m ≤ 1
  | 0, _ => Nat.zero_le 1
  | m + 1, h => by
    simp only [pd_rc]
    by_cases hm : r m = p
    · rw [if_pos hm, pd_rc_0 (fun k hk q => by have := h k m (by omega) (by omega) q hm; omega)]
      omega
    · rw [if_neg hm]
      have := pd_rc_le1 (r := r) (p := p) (m := m) (fun i j hi hj => h i j (by omega) (by omega))
      omega
theorem pd_sm_congr {f g : Nat → Nat} : ∀ {m : Nat}, (∀ k, k < m → f k = g k) → pd_sm f m = pd_sm g m
  | 0, _ => rfl
  | m + 1, h => by
    simp only [pd_sm]
    rw [pd_sm_congr (fun k hk => h k (Nat.lt_succ_of_lt hk)), h m (Nat.lt_succ_self m)]
theorem pd_sm_up {f : Nat → Nat} {c v : Nat} : ∀ {m : Nat}, c < m → pd_sm (va_up f c v) m + f c = pd_sm f m + v
  | 0, h => absurd h (Nat.not_lt_zero c)
  | m + 1, h => by
    simp only [pd_sm]
    by_cases hc : c = m
    · subst hc
      rw [va_up_self, pd_sm_congr (f := va_up f c v) (g := f) (fun k hk => va_up_ne f v (by omega))]
      omega
    · rw [va_up_ne f v (fun q => hc q.symm)]
      have := pd_sm_up (f := f) (v := v) (c := c) (m := m) (by omega)
      omega
theorem pd_sm_le {f : Nat → Nat} {c : Nat} : ∀ {m : Nat}, c < m → f c ≤ pd_sm f m
  | 0, h => absurd h (Nat.not_lt_zero c)
  | m + 1, h => by
    simp only [pd_sm]
    by_cases hc : c = m
    · subst hc
      omega
    · have := pd_sm_le (f := f) (c := c) (m := m) (by omega)
      omega
theorem pd_sm_of {f : Nat → Nat} : ∀ {m : Nat}, 0 < pd_sm f m → ∃ c, c < m ∧ 0 < f c
  | 0, h => absurd h (Nat.lt_irrefl 0)
  | m + 1, h => by
    simp only [pd_sm] at h
    by_cases hm : 0 < f m
    · exact ⟨m, Nat.lt_succ_self m, hm⟩
    · obtain ⟨c, h1, h2⟩ := pd_sm_of (f := f) (m := m) (by omega)
      exact ⟨c, by omega, h2⟩
theorem pd_sm_0 {f : Nat → Nat} {m : Nat} (h : ∀ c, c < m → f c = 0) : pd_sm f m = 0 := by
  rcases Nat.eq_zero_or_pos (pd_sm f m) with h0 | h0
  · exact h0
  · obtain ⟨c, h1, h2⟩ := pd_sm_of h0
    rw [h c h1] at h2
    exact absurd h2 (Nat.lt_irrefl 0)
theorem pd_nz_congr {f g : Nat → Nat} : ∀ {m : Nat}, (∀ k, k < m → f k = g k) → pd_nz f m = pd_nz g m
  | 0, _ => rfl
  | m + 1, h => by
    simp only [pd_nz]
    rw [pd_nz_congr (fun k hk => h k (Nat.lt_succ_of_lt hk)), h m (Nat.lt_succ_self m)]
theorem pd_nz_le (f : Nat → Nat) : ∀ m : Nat, pd_nz f m ≤ m
  | 0 => Nat.le_refl 0
  | m + 1 => by
    simp only [pd_nz]
    have := pd_nz_le f m
    by_cases h : 0 < f m
    · rw [if_pos h]
      omega
    · rw [if_neg h]
      omega
theorem pd_nz_in {f : Nat → Nat} {p v : Nat} (h0 : f p = 0) (hv : 0 < v) : ∀ {m : Nat}, p < m → pd_nz (va_up f p v) m = pd_nz f m + 1
  | 0, h => absurd h (Nat.not_lt_zero p)
  | m + 1, h => by
    simp only [pd_nz]
    by_cases hc : p = m
    · subst hc
      rw [va_up_self, pd_nz_congr (f := va_up f p v) (g := f) (fun k hk => va_up_ne f v (by omega)), if_pos hv, h0, if_neg (Nat.lt_irrefl 0)]
    · rw [va_up_ne f v (fun q => hc q.symm), pd_nz_in h0 hv (m := m) (by omega)]
      omega
theorem pd_nz_out {f : Nat → Nat} {p : Nat} (h0 : 0 < f p) : ∀ {m : Nat}, p < m → pd_nz (va_up f p 0) m + 1 = pd_nz f m
  | 0, h => absurd h (Nat.not_lt_zero p)
  | m + 1, h => by
    simp only [pd_nz]
    by_cases hc : p = m
    · subst hc
      rw [va_up_self, pd_nz_congr (f := va_up f p 0) (g := f) (fun k hk => va_up_ne f 0 (by omega)), if_pos h0, if_neg (Nat.lt_irrefl 0)]
    · rw [va_up_ne f 0 (fun q => hc q.symm)]
      have := pd_nz_out h0 (m := m) (by omega)
      omega
theorem pd_nz_same {f : Nat → Nat} {p v : Nat} (h0 : 0 < f p) (hv : 0 < v) : ∀ {m : Nat}, pd_nz (va_up f p v) m = pd_nz f m
  | 0 => rfl
  | m + 1 => by
    simp only [pd_nz]
    rw [pd_nz_same h0 hv (m := m)]
    by_cases hc : m = p
    · subst hc
      rw [va_up_self, if_pos hv, if_pos h0]
    · rw [va_up_ne f v hc]
theorem pd_nz_free {f : Nat → Nat} : ∀ {m : Nat}, pd_nz f m < m → ∃ p, p < m ∧ f p = 0
  | 0, h => absurd h (Nat.not_lt_zero _)
  | m + 1, h => by
    simp only [pd_nz] at h
    by_cases hm : f m = 0
    · exact ⟨m, Nat.lt_succ_self m, hm⟩
    · rw [if_pos (Nat.pos_of_ne_zero hm)] at h
      obtain ⟨p, h1, h2⟩ := pd_nz_free (f := f) (m := m) (by omega)
      exact ⟨p, by omega, h2⟩
theorem pd_nz_pos {f : Nat → Nat} {p m : Nat} (hp : p < m) (h : 0 < f p) : 0 < pd_nz f m := by
  have := pd_nz_out h hp
  omega
/-- how many live references there are to page p -/
def pd_ct (S : pdS) (p : Nat) : Nat := pd_sm (fun c => pd_rc (S (8 + c)) p (pd_pf (S 4 c))) 32
/-- the pool: n pages; f says how often each is in a row -/
def pd_ok (n : Nat) (S : pdS) (f : Nat → Nat) : Prop :=
  (∀ p, p < n → S 1 p = f p) ∧ (∀ j, j < S 7 0 → S 2 j < n ∧ f (S 2 j) = 0) ∧ (∀ i j, i < S 7 0 → j < S 7 0 → S 2 i = S 2 j → i = j) ∧ S 7 0 + pd_nz f n = n
theorem pd_ok_congr {n : Nat} {S : pdS} {f g : Nat → Nat} (h : pd_ok n S f) (hfg : ∀ p, p < n → f p = g p) : pd_ok n S g := by
  obtain ⟨h1, h2, h3, h4⟩ := h
  refine ⟨fun p hp => (h1 p hp).trans (hfg p hp), fun j hj => ⟨(h2 j hj).1, ?_⟩, h3, ?_⟩
  · rw [← hfg _ (h2 j hj).1]
    exact (h2 j hj).2
  · rw [← pd_nz_congr hfg]
    exact h4
theorem pd_ok_eqv {n : Nat} {S S' : pdS} {f : Nat → Nat} (h : pd_ok n S f) (h1 : S' 1 = S 1) (h2 : S' 2 = S 2) (h7 : S' 7 0 = S 7 0) : pd_ok n S' f := by
  unfold pd_ok
  rw [h1, h2, h7]
  exact h
def pd_take (S : pdS) : pdS := pd_st (pd_st S 7 0 (S 7 0 - 1)) 1 (S 2 (S 7 0 - 1)) 1
theorem pd_take_ok {n : Nat} {S : pdS} {f : Nat → Nat} (h : pd_ok n S f) (hu : 0 < S 7 0) : S 2 (S 7 0 - 1) < n ∧ f (S 2 (S 7 0 - 1)) = 0 ∧ pd_ok n (pd_take S) (va_up f (S 2 (S 7 0 - 1)) 1) := by
  obtain ⟨h1, h2, h3, h4⟩ := h
  obtain ⟨hp, hf⟩ := h2 (S 7 0 - 1) (by omega)
  generalize hpe : S 2 (S 7 0 - 1) = p at hp hf ⊢
  have e7 : pd_take S 7 0 = S 7 0 - 1 := by
    unfold pd_take
    rw [pd_bk _ (show (7 : Nat) ≠ 1 by decide), pd_self]
  have e2 : pd_take S 2 = S 2 := by
    unfold pd_take
    rw [pd_bk _ (show (2 : Nat) ≠ 1 by decide), pd_bk _ (show (2 : Nat) ≠ 7 by decide)]
  have e1 : pd_take S 1 = va_up (S 1) p 1 := by
    unfold pd_take
    rw [pd_own, pd_bk _ (show (1 : Nat) ≠ 7 by decide), hpe]
  refine ⟨hp, hf, ?_, ?_, ?_, ?_⟩
  · intro q hq
    rw [e1]
    by_cases hqp : q = p
    · subst hqp
      rw [va_up_self, va_up_self]
    · rw [va_up_ne _ _ hqp, va_up_ne _ _ hqp]
      exact h1 q hq
  · intro j hj
    rw [e7] at hj
    rw [e2]
    refine ⟨(h2 j (by omega)).1, ?_⟩
    have hne : S 2 j ≠ p := fun q => by
      have := h3 j (S 7 0 - 1) (by omega) (by omega) (q.trans hpe.symm)
      omega
    rw [va_up_ne _ _ hne]
    exact (h2 j (by omega)).2
  · intro i j hi hj
    rw [e7] at hi hj
    rw [e2]
    exact h3 i j (by omega) (by omega)
  · rw [e7, pd_nz_in hf (by decide) hp]
    omega
def pd_join (S : pdS) (p : Nat) : pdS := pd_st S 1 p (S 1 p + 1)
theorem pd_join_ok {n : Nat} {S : pdS} {f : Nat → Nat} {p : Nat} (h : pd_ok n S f) (hp : p < n) (hf : 0 < f p) : pd_ok n (pd_join S p) (va_up f p (f p + 1)) := by
  obtain ⟨h1, h2, h3, h4⟩ := h
  have e7 : pd_join S p 7 = S 7 := pd_bk _ (by decide)
  have e2 : pd_join S p 2 = S 2 := pd_bk _ (by decide)
  have e1 : pd_join S p 1 = va_up (S 1) p (S 1 p + 1) := pd_own ..
  refine ⟨?_, ?_, ?_, ?_⟩
  · intro q hq
    rw [e1]
    by_cases hqp : q = p
    · subst hqp
      rw [va_up_self, va_up_self, h1 q hq]
    · rw [va_up_ne _ _ hqp, va_up_ne _ _ hqp]
      exact h1 q hq
  · intro j hj
    rw [e7] at hj
    rw [e2]
    refine ⟨(h2 j hj).1, ?_⟩
    have hne : S 2 j ≠ p := fun q => by
      have := (h2 j hj).2
      rw [q] at this
      omega
    rw [va_up_ne _ _ hne]
    exact (h2 j hj).2
  · rw [e7, e2]
    exact h3
  · rw [e7, pd_nz_same hf (by omega)]
    exact h4
def pd_leave (S : pdS) (p : Nat) : pdS := if S 1 p = 1 then pd_st (pd_st (pd_st S 1 p 0) 2 (S 7 0) p) 7 0 (S 7 0 + 1) else pd_st S 1 p (S 1 p - 1)
theorem pd_leave_ok {n : Nat} {S : pdS} {f : Nat → Nat} {p : Nat} (h : pd_ok n S f) (hp : p < n) (hf : 0 < f p) : S 7 0 < n ∧ S 1 p = f p ∧ pd_ok n (pd_leave S p) (va_up f p (f p - 1)) := by
  obtain ⟨h1, h2, h3, h4⟩ := h
  have hz := pd_nz_pos hp hf
  have hout : ∀ j, j < S 7 0 → S 2 j ≠ p := fun j hj q => by
    have := (h2 j hj).2
    rw [q] at this
    omega
  refine ⟨by omega, h1 p hp, ?_⟩
  unfold pd_leave
  by_cases hone : S 1 p = 1
  · rw [if_pos hone]
    have hf1 : f p = 1 := by rw [← h1 p hp]; exact hone
    have e1 : pd_st (pd_st (pd_st S 1 p 0) 2 (S 7 0) p) 7 0 (S 7 0 + 1) 1 = va_up (S 1) p 0 := by
      rw [pd_bk _ (show (1 : Nat) ≠ 7 by decide), pd_bk _ (show (1 : Nat) ≠ 2 by decide), pd_own]
    have e2 : pd_st (pd_st (pd_st S 1 p 0) 2 (S 7 0) p) 7 0 (S 7 0 + 1) 2 = va_up (S 2) (S 7 0) p := by
      rw [pd_bk _ (show (2 : Nat) ≠ 7 by decide), pd_own, pd_bk _ (show (2 : Nat) ≠ 1 by decide)]
    have e7 : pd_st (pd_st (pd_st S 1 p 0) 2 (S 7 0) p) 7 0 (S 7 0 + 1) 7 0 = S 7 0 + 1 := pd_self ..
    have hf0 : f p - 1 = 0 := by omega
    rw [hf0]
    refine ⟨?_, ?_, ?_, ?_⟩
    · intro q hq
      rw [e1]
      by_cases hqp : q = p
      · subst hqp
        rw [va_up_self, va_up_self]
      · rw [va_up_ne _ _ hqp, va_up_ne _ _ hqp]
        exact h1 q hq
    · intro j hj
      rw [e7] at hj
      rw [e2]
      by_cases hju : j = S 7 0
      · subst hju
        rw [va_up_self, va_up_self]
        exact ⟨hp, rfl⟩
      · rw [va_up_ne _ _ hju, va_up_ne _ _ (hout j (by omega))]
        exact h2 j (by omega)
    · intro i j hi hj
      rw [e7] at hi hj
      rw [e2]
      by_cases hi0 : i = S 7 0 <;> by_cases hj0 : j = S 7 0
      · intro _
        omega
      · subst hi0
        rw [va_up_self, va_up_ne _ _ hj0]
        intro q
        exact absurd q.symm (hout j (by omega))
      · subst hj0
        rw [va_up_self, va_up_ne _ _ hi0]
        intro q
        exact absurd q (hout i (by omega))
      · rw [va_up_ne _ _ hi0, va_up_ne _ _ hj0]
        exact h3 i j (by omega) (by omega)
    · rw [e7]
      have := pd_nz_out hf hp
      omega
  · rw [if_neg hone]
    have e1 : pd_st S 1 p (S 1 p - 1) 1 = va_up (S 1) p (S 1 p - 1) := pd_own ..
    have e2 : pd_st S 1 p (S 1 p - 1) 2 = S 2 := pd_bk _ (by decide)
    have e7 : pd_st S 1 p (S 1 p - 1) 7 = S 7 := pd_bk _ (by decide)
    have hf2 : 1 < f p := by
      have := h1 p hp
      omega
    refine ⟨?_, ?_, ?_, ?_⟩
    · intro q hq
      rw [e1]
      by_cases hqp : q = p
      · subst hqp
        rw [va_up_self, va_up_self, h1 q hq]
      · rw [va_up_ne _ _ hqp, va_up_ne _ _ hqp]
        exact h1 q hq
    · intro j hj
      rw [e7] at hj
      rw [e2]
      refine ⟨(h2 j hj).1, ?_⟩
      rw [va_up_ne _ _ (hout j hj)]
      exact (h2 j hj).2
    · rw [e7, e2]
      exact h3
    · rw [e7, pd_nz_same hf (by omega)]
      exact h4
end
section
/-! PURE, 2: what both sides keep, and when they are alike -/
def pd_by (S : pdS) (c i : Nat) : Nat := S 0 (64 * S (8 + c) (i / 64) + i % 64)
/-- a page lies at one place in all rows -/
def pd_po (S : pdS) : Prop := ∀ c d k j, c < 32 → d < 32 → k < pd_pf (S 4 c) → j < pd_pf (S 4 d) → S (8 + c) k = S (8 + d) j → k = j
def pd_v (N : Nat) (S : pdS) : Prop :=
  (∀ c, c < 32 → S 4 c ≤ 25600 ∧ S 5 c ≤ 1 ∧ (S 5 c = 0 → S 4 c = 0)) ∧ (∀ c k, c < 32 → k < pd_pf (S 4 c) → S (8 + c) k < N) ∧ pd_po S ∧ S 7 2 ≤ 4096 ∧ (∀ j, S 3 j < 256) ∧ ∀ j, S 0 j < 256
def pd_lo (S : pdS) : Prop := ∀ i, i < 16 → S 6 i ≤ S 4 (2 * i)
/-- the class's own state -/
def pd_I (n : Nat) (S : pdS) : Prop := 4 ≤ n ∧ n ≤ 1024 ∧ pd_v n S ∧ pd_ok n S (pd_ct S)
def pd_eq (S Q : pdS) : Prop :=
  (∀ c, c < 32 → S 4 c = Q 4 c ∧ S 5 c = Q 5 c) ∧ (∀ i, i < 16 → S 6 i = Q 6 i) ∧ S 7 1 = Q 7 1 ∧ S 7 2 = Q 7 2 ∧ (∀ j, j < S 7 2 → S 3 j = Q 3 j) ∧
  (∀ c d k, c < 32 → d < 32 → k < pd_pf (S 4 c) → k < pd_pf (S 4 d) → (S (8 + c) k = S (8 + d) k ↔ Q (8 + c) k = Q (8 + d) k)) ∧ ∀ c i, c < 32 → i < S 4 c → pd_by S c i = pd_by Q c i
theorem pd_eq_symm {S Q : pdS} (h : pd_eq S Q) : pd_eq Q S := by
  obtain ⟨h1, h2, h3, h4, h5, h6, h7⟩ := h
  refine ⟨fun c hc => ⟨(h1 c hc).1.symm, (h1 c hc).2.symm⟩, fun i hi => (h2 i hi).symm, h3.symm, h4.symm, fun j hj => (h5 j (by rw [h4]; exact hj)).symm, fun c d k hc hd hk hk2 => ?_, fun c i hc hi => ?_⟩
  · rw [← (h1 c hc).1] at hk
    rw [← (h1 d hd).1] at hk2
    exact (h6 c d k hc hd hk hk2).symm
  · rw [← (h1 c hc).1] at hi
    exact (h7 c i hc hi).symm
theorem pd_rc_one {r : Nat → Nat} {p k m : Nat} (h : ∀ j, j < m → r j = p → j = k) : pd_rc r p m = if k < m ∧ r k = p then 1 else 0 := by
  by_cases hk : k < m ∧ r k = p
  · rw [if_pos hk]
    have h1 := pd_rc_pos hk.2 hk.1
    have h2 := pd_rc_le1 (r := r) (p := p) (m := m) (fun i j hi hj hi2 hj2 => (h i hi hi2).trans (h j hj hj2).symm)
    omega
  · rw [if_neg hk]
    refine pd_rc_0 (fun j hj q => hk ?_)
    have := h j hj q
    subst this
    exact ⟨hj, q⟩
/-- a live page is in as many rows here as there -/
theorem pd_eq_ct {S Q : pdS} (h : pd_eq S Q) (hS : pd_po S) (hQ : pd_po Q) {c k : Nat} (hc : c < 32) (hk : k < pd_pf (S 4 c)) : pd_ct S (S (8 + c) k) = pd_ct Q (Q (8 + c) k) := by
  obtain ⟨h1, -, -, -, -, h6, -⟩ := h
  have hkQ : k < pd_pf (Q 4 c) := by rw [← (h1 c hc).1]; exact hk
  refine pd_sm_congr (fun d hd => ?_)
  show pd_rc (S (8 + d)) (S (8 + c) k) (pd_pf (S 4 d)) = pd_rc (Q (8 + d)) (Q (8 + c) k) (pd_pf (Q 4 d))
  rw [pd_rc_one (k := k) (fun j hj q => hS d c j k hd hc hj hk q), pd_rc_one (k := k) (fun j hj q => hQ d c j k hd hc hj hkQ q), ← (h1 d hd).1]
  by_cases hl : k < pd_pf (S 4 d)
  · have := h6 d c k hd hc hl hk
    by_cases hq : S (8 + d) k = S (8 + c) k
    · rw [if_pos ⟨hl, hq⟩, if_pos ⟨hl, this.mp hq⟩]
    · rw [if_neg (fun q => hq q.2), if_neg (fun q => hq (this.mpr q.2))]
  · rw [if_neg (fun q => hl q.1), if_neg (fun q => hl q.1)]
theorem pd_nz_inj {R : Nat → Nat → Prop} {f : Nat → Nat} {M : Nat} (hR : ∀ p p' q, R p q → R p' q → p = p') : ∀ (N : Nat) (g : Nat → Nat), (∀ p, p < N → 0 < f p → ∃ q, q < M ∧ 0 < g q ∧ R p q) → pd_nz f N ≤ pd_nz g M
  | 0, g, _ => Nat.zero_le _
  | N + 1, g, h => by
    simp only [pd_nz]
    by_cases hf : 0 < f N
    · rw [if_pos hf]
      obtain ⟨q, hq, hg, hr⟩ := h N (Nat.lt_succ_self N) hf
      have h1 := pd_nz_out hg hq
      have h2 := pd_nz_inj (R := R) (f := f) (M := M) hR N (va_up g q 0) (fun p hp hfp => by
        obtain ⟨q', hq', hg', hr'⟩ := h p (by omega) hfp
        have hne : q' ≠ q := fun e => by
          subst e
          have := hR p N q' hr' hr
          omega
        exact ⟨q', hq', by rw [va_up_ne _ _ hne]; exact hg', hr'⟩)
      omega
    · rw [if_neg hf]
      have h2 := pd_nz_inj (R := R) (f := f) (M := M) hR N g (fun p hp hfp => h p (by omega) hfp)
      omega
theorem pd_ct_of {S : pdS} {p : Nat} (h : 0 < pd_ct S p) : ∃ c k, c < 32 ∧ k < pd_pf (S 4 c) ∧ S (8 + c) k = p := by
  obtain ⟨c, hc, h1⟩ := pd_sm_of h
  obtain ⟨k, hk, h2⟩ := pd_rc_of h1
  exact ⟨c, k, hc, hk, h2⟩
theorem pd_ct_pos {S : pdS} {c k : Nat} (hc : c < 32) (hk : k < pd_pf (S 4 c)) : 0 < pd_ct S (S (8 + c) k) := by
  have h1 : 0 < pd_rc (S (8 + c)) (S (8 + c) k) (pd_pf (S 4 c)) := pd_rc_pos rfl hk
  have h2 := pd_sm_le (f := fun d => pd_rc (S (8 + d)) (S (8 + c) k) (pd_pf (S 4 d))) hc
  exact Nat.lt_of_lt_of_le h1 h2
theorem pd_eq_le {S Q : pdS} {n N : Nat} (h : pd_eq S Q) (hQ : pd_po Q) (hN : ∀ c k, c < 32 → k < pd_pf (Q 4 c) → Q (8 + c) k < N) : pd_nz (pd_ct S) n ≤ pd_nz (pd_ct Q) N := by
  obtain ⟨h1, -, -, -, -, h6, -⟩ := h
  refine pd_nz_inj (R := fun p q => ∃ c k, c < 32 ∧ k < pd_pf (S 4 c) ∧ S (8 + c) k = p ∧ Q (8 + c) k = q) ?_ n _ ?_
  · rintro p p' q ⟨c, k, hc, hk, rfl, hq⟩ ⟨d, j, hd, hj, rfl, hq2⟩
    have hkQ : k < pd_pf (Q 4 c) := by rw [← (h1 c hc).1]; exact hk
    have hjQ : j < pd_pf (Q 4 d) := by rw [← (h1 d hd).1]; exact hj
    have hkj := hQ c d k j hc hd hkQ hjQ (hq.trans hq2.symm)
    subst hkj
    exact (h6 c d k hc hd hk hj).mpr (hq.trans hq2.symm)
  · intro p _ hp
    obtain ⟨c, k, hc, hk, hpk⟩ := pd_ct_of hp
    have hkQ : k < pd_pf (Q 4 c) := by rw [← (h1 c hc).1]; exact hk
    exact ⟨Q (8 + c) k, hN c k hc hkQ, pd_ct_pos hc hkQ, c, k, hc, hk, hpk, rfl⟩
/-- as many pages are used here as there -/
theorem pd_eq_nz {S Q : pdS} {n N : Nat} (h : pd_eq S Q) (hS : pd_v n S) (hQ : pd_v N Q) : pd_nz (pd_ct S) n = pd_nz (pd_ct Q) N := by
  have h1 := pd_eq_le (n := n) h hQ.2.2.1 hQ.2.1
  have h2 := pd_eq_le (n := N) (pd_eq_symm h) hS.2.2.1 hS.2.1
  omega
/-- NOW of a file is cut: a content of size s -/
def pd_sh (S S' : pdS) (c s : Nat) : Prop := S' 0 = S 0 ∧ S' 3 = S 3 ∧ S' 4 = va_up (S 4) c s ∧ S' 5 = S 5 ∧ S' 6 = S 6 ∧ S' 7 1 = S 7 1 ∧ S' 7 2 = S 7 2 ∧ ∀ d, d < 32 → S' (8 + d) = S (8 + d)
theorem pd_pf_mono {a b : Nat} (h : a ≤ b) : pd_pf a ≤ pd_pf b := by
  unfold pd_pf
  omega
theorem pd_sh_sz {S S' : pdS} {c s : Nat} (h : pd_sh S S' c s) (hs : s ≤ S 4 c) (d : Nat) : S' 4 d ≤ S 4 d := by
  rw [h.2.2.1]
  by_cases hd : d = c
  · subst hd
    rw [va_up_self]
    exact hs
  · rw [va_up_ne _ _ hd]
    exact Nat.le_refl _
theorem pd_sh_v {S S' : pdS} {N c s : Nat} (h : pd_sh S S' c s) (hs : s ≤ S 4 c) (hv : pd_v N S) : pd_v N S' := by
  have hz := pd_sh_sz h hs
  obtain ⟨e0, e3, e4, e5, e6, e71, e72, er⟩ := h
  obtain ⟨v1, v2, v3, v4, v5, v6⟩ := hv
  refine ⟨fun d hd => ?_, fun d k hd hk => ?_, fun a d k j ha hd hk hj => ?_, by rw [e72]; exact v4, by rw [e3]; exact v5, by rw [e0]; exact v6⟩
  · obtain ⟨w1, w2, w3⟩ := v1 d hd
    have := hz d
    rw [e5]
    exact ⟨by omega, w2, fun q => by have := w3 q; omega⟩
  · rw [er d hd]
    exact v2 d k hd (Nat.lt_of_lt_of_le hk (pd_pf_mono (hz d)))
  · rw [er a ha, er d hd]
    exact v3 a d k j ha hd (Nat.lt_of_lt_of_le hk (pd_pf_mono (hz a))) (Nat.lt_of_lt_of_le hj (pd_pf_mono (hz d)))
theorem pd_by_congr {S S' : pdS} {c i : Nat} (h0 : S' 0 = S 0) (hr : S' (8 + c) (i / 64) = S (8 + c) (i / 64)) : pd_by S' c i = pd_by S c i := by
  unfold pd_by
  rw [h0, hr]
theorem pd_sh_eq {S S' Q Q' : pdS} {c s : Nat} (h : pd_sh S S' c s) (g : pd_sh Q Q' c s) (hs : s ≤ S 4 c) (hc : c < 32) (e : pd_eq S Q) : pd_eq S' Q' := by
  have hz := pd_sh_sz h hs
  obtain ⟨e0, e3, e4, e5, e6, e71, e72, er⟩ := h
  obtain ⟨g0, g3, g4, g5, g6, g71, g72, gr⟩ := g
  obtain ⟨h1, h2, h3, h4, h5, h6, h7⟩ := e
  refine ⟨fun d hd => ⟨?_, by rw [e5, g5]; exact (h1 d hd).2⟩, by rw [e6, g6]; exact h2, by rw [e71, g71]; exact h3, by rw [e72, g72]; exact h4, by rw [e72, e3, g3]; exact h5, fun a d k ha hd hk hk2 => ?_, fun d i hd hi => ?_⟩
  · rw [e4, g4]
    by_cases hdc : d = c
    · subst hdc
      rw [va_up_self, va_up_self]
    · rw [va_up_ne _ _ hdc, va_up_ne _ _ hdc]
      exact (h1 d hd).1
  · rw [er a ha, er d hd, gr a ha, gr d hd]
    exact h6 a d k ha hd (Nat.lt_of_lt_of_le hk (pd_pf_mono (hz a))) (Nat.lt_of_lt_of_le hk2 (pd_pf_mono (hz d)))
  · rw [pd_by_congr e0 (by rw [er d hd]), pd_by_congr g0 (by rw [gr d hd])]
    exact h7 d i hd (Nat.lt_of_lt_of_le hi (hz d))
/-- a content becomes another -/
def pd_be (S S' : pdS) (to fr : Nat) : Prop := S' 0 = S 0 ∧ S' 3 = S 3 ∧ S' 4 = va_up (S 4) to (S 4 fr) ∧ S' 5 = va_up (S 5) to (S 5 fr) ∧ S' 6 = S 6 ∧ S' 7 1 = S 7 1 ∧ S' 7 2 = S 7 2 ∧ (∀ k, k < pd_pf (S 4 fr) → S' (8 + to) k = S (8 + fr) k) ∧ ∀ d k, d < 32 → d ≠ to → k < pd_pf (S 4 d) → S' (8 + d) k = S (8 + d) k
/-- whose row a row is behind pd_be -/
theorem pd_be_src {S S' : pdS} {to fr : Nat} (h : pd_be S S' to fr) (hf : fr < 32) {d : Nat} (hd : d < 32) : ∃ d', d' < 32 ∧ S' 4 d = S 4 d' ∧ S' 5 d = S 5 d' ∧ (d' = if d = to then fr else d) ∧ ∀ k, k < pd_pf (S' 4 d) → S' (8 + d) k = S (8 + d') k := by
  obtain ⟨e0, e3, e4, e5, e6, e71, e72, er, eo⟩ := h
  by_cases hdt : d = to
  · subst hdt
    refine ⟨fr, hf, by rw [e4, va_up_self], by rw [e5, va_up_self], by rw [if_pos rfl], fun k hk => er k ?_⟩
    rw [e4, va_up_self] at hk
    exact hk
  · refine ⟨d, hd, by rw [e4, va_up_ne _ _ hdt], by rw [e5, va_up_ne _ _ hdt], by rw [if_neg hdt], fun k hk => eo d k hd hdt ?_⟩
    rw [e4, va_up_ne _ _ hdt] at hk
    exact hk
theorem pd_be_v {S S' : pdS} {N to fr : Nat} (h : pd_be S S' to fr) (hf : fr < 32) (hv : pd_v N S) : pd_v N S' := by
  have hsrc := fun (d : Nat) (hd : d < 32) => pd_be_src h hf hd
  obtain ⟨v1, v2, v3, v4, v5, v6⟩ := hv
  refine ⟨fun d hd => ?_, fun d k hd hk => ?_, fun a d k j ha hd hk hj => ?_, by rw [h.2.2.2.2.2.2.1]; exact v4, by rw [h.2.1]; exact v5, by rw [h.1]; exact v6⟩
  · obtain ⟨d', h1, h2, h3, -, h5⟩ := hsrc d hd
    rw [h2, h3]
    exact v1 d' h1
  · obtain ⟨d', h1, h2, h3, -, h5⟩ := hsrc d hd
    rw [h5 k hk]
    rw [h2] at hk
    exact v2 d' k h1 hk
  · obtain ⟨a', a1, a2, a3, -, a5⟩ := hsrc a ha
    obtain ⟨d', h1, h2, h3, -, h5⟩ := hsrc d hd
    rw [a5 k hk, h5 j hj]
    rw [a2] at hk
    rw [h2] at hj
    exact v3 a' d' k j a1 h1 hk hj
theorem pd_be_eq {S S' Q Q' : pdS} {to fr : Nat} (h : pd_be S S' to fr) (g : pd_be Q Q' to fr) (hf : fr < 32) (e : pd_eq S Q) : pd_eq S' Q' := by
  have hs := fun (d : Nat) (hd : d < 32) => pd_be_src h hf hd
  have gs := fun (d : Nat) (hd : d < 32) => pd_be_src g hf hd
  obtain ⟨h1, h2, h3, h4, h5, h6, h7⟩ := e
  obtain ⟨e0, e3, e4, e5, e6, e71, e72, er, eo⟩ := h
  obtain ⟨g0, g3, g4, g5, g6, g71, g72, gr, go⟩ := g
  refine ⟨fun d hd => ?_, by rw [e6, g6]; exact h2, by rw [e71, g71]; exact h3, by rw [e72, g72]; exact h4, by rw [e72, e3, g3]; exact h5, fun a d k ha hd hk hk2 => ?_, fun d i hd hi => ?_⟩
  · obtain ⟨d', w1, w2, w3, w4, -⟩ := hs d hd
    obtain ⟨d2, z1, z2, z3, z4, -⟩ := gs d hd
    have hdd : d2 = d' := z4.trans w4.symm
    subst hdd
    rw [w2, w3, z2, z3]
    exact h1 d2 w1
  · obtain ⟨a', x1, x2, x3, x4, x5⟩ := hs a ha
    obtain ⟨a2, y1, y2, y3, y4, y5⟩ := gs a ha
    obtain ⟨d', w1, w2, w3, w4, w5⟩ := hs d hd
    obtain ⟨d2, z1, z2, z3, z4, z5⟩ := gs d hd
    have haa : a2 = a' := y4.trans x4.symm
    have hdd : d2 = d' := z4.trans w4.symm
    subst haa
    subst hdd
    rw [x5 k hk, w5 k hk2]
    rw [x2] at hk
    rw [w2] at hk2
    rw [y5 k (by rw [y2, ← (h1 a2 x1).1]; exact hk), z5 k (by rw [z2, ← (h1 d2 w1).1]; exact hk2)]
    exact h6 a2 d2 k x1 w1 hk hk2
  · obtain ⟨d', w1, w2, w3, w4, w5⟩ := hs d hd
    obtain ⟨d2, z1, z2, z3, z4, z5⟩ := gs d hd
    have hdd : d2 = d' := z4.trans w4.symm
    subst hdd
    have hi2 : i < S 4 d2 := by rw [← w2]; exact hi
    have hk : i / 64 < pd_pf (S 4 d2) := by unfold pd_pf; omega
    have hkQ : i / 64 < pd_pf (Q 4 d2) := by rw [← (h1 d2 w1).1]; exact hk
    have := h7 d2 i w1 hi2
    unfold pd_by at this ⊢
    rw [e0, g0, w5 _ (by rw [w2]; exact hk), z5 _ (by rw [z2]; exact hkQ)]
    exact this
end
section
/-! PURE, 3: appending -/
/-- does the last page have to be copied -/
def pd_cp (S : pdS) (c add : Nat) : Prop := 0 < add ∧ S 4 c % 64 ≠ 0 ∧ 1 < pd_ct S (S (8 + c) (S 4 c / 64))
/-- the pages that are new in row c -/
def pd_nw (S : pdS) (c add k : Nat) : Prop := k < pd_pf (S 4 c + add) ∧ (pd_pf (S 4 c) ≤ k ∨ (pd_cp S c add ∧ k = S 4 c / 64))
def pd_ap (N : Nat) (S S' : pdS) (c add : Nat) (tp : Nat → Nat) : Prop :=
  S' 4 = va_up (S 4) c (S 4 c + add) ∧ S' 5 = va_up (S 5) c 1 ∧ S' 6 = S 6 ∧ ((pd_cp S c add ∧ S' 7 1 = S 7 1 + 1) ∨ (¬ pd_cp S c add ∧ S' 7 1 = S 7 1)) ∧ S' 7 2 = 0 ∧
  (∀ d k, d < 32 → d ≠ c → k < pd_pf (S 4 d) → S' (8 + d) k = S (8 + d) k) ∧ (∀ k, k < pd_pf (S 4 c) → ¬ (pd_cp S c add ∧ k = S 4 c / 64) → S' (8 + c) k = S (8 + c) k) ∧
  (∀ k, pd_nw S c add k → S' (8 + c) k < N ∧ pd_ct S (S' (8 + c) k) = 0) ∧ (∀ k j, pd_nw S c add k → pd_nw S c add j → S' (8 + c) k = S' (8 + c) j → k = j) ∧
  (∀ d i, d < 32 → i < S 4 d → pd_by S' d i = pd_by S d i) ∧ (∀ i, i < add → pd_by S' c (S 4 c + i) = tp i) ∧ (∀ j, S' 3 j < 256) ∧ ∀ j, S' 0 j < 256
theorem pd_ct_live {S : pdS} {p c k : Nat} (h : pd_ct S p = 0) (hc : c < 32) (hk : k < pd_pf (S 4 c)) : S (8 + c) k ≠ p := fun q => by
  have := pd_ct_pos hc hk
  rw [q] at this
  omega
/-- a row behind an append: each page is an old one at its place, or a new one -/
theorem pd_ap_row {S S' : pdS} {N c add : Nat} {tp : Nat → Nat} (h : pd_ap N S S' c add tp) {d k : Nat} (hd : d < 32) (hk : k < pd_pf (S' 4 d)) : (k < pd_pf (S 4 d) ∧ S' (8 + d) k = S (8 + d) k ∧ ¬ (d = c ∧ pd_nw S c add k)) ∨ (d = c ∧ pd_nw S c add k) := by
  obtain ⟨e4, e5, e6, e71, e72, eo, ec, en, ei, eb, et, e3, e0⟩ := h
  rw [e4] at hk
  by_cases hdc : d = c
  · subst hdc
    rw [va_up_self] at hk
    by_cases hn : pd_nw S d add k
    · exact Or.inr ⟨rfl, hn⟩
    · refine Or.inl ?_
      have h1 : k < pd_pf (S 4 d) := Nat.not_le.mp (fun q => hn ⟨hk, Or.inl q⟩)
      have h2 : ¬ (pd_cp S d add ∧ k = S 4 d / 64) := fun q => hn ⟨hk, Or.inr q⟩
      exact ⟨h1, ec k h1 h2, fun q => hn q.2⟩
  · rw [va_up_ne _ _ hdc] at hk
    exact Or.inl ⟨hk, eo d k hd hdc hk, fun q => hdc q.1⟩
theorem pd_ap_v {S S' : pdS} {N c add : Nat} {tp : Nat → Nat} (h : pd_ap N S S' c add tp) (hz : S 4 c + add ≤ 25600) (hv : pd_v N S) : pd_v N S' := by
  have hrow := fun (d k : Nat) (hd : d < 32) (hk : k < pd_pf (S' 4 d)) => pd_ap_row h hd hk
  obtain ⟨e4, e5, e6, e71, e72, eo, ec, en, ei, eb, et, e3, e0⟩ := h
  obtain ⟨v1, v2, v3, v4, v5, v6⟩ := hv
  refine ⟨fun d hd => ?_, fun d k hd hk => ?_, fun a d k j ha hd hk hj hq => ?_, by rw [e72]; omega, e3, e0⟩
  · rw [e4, e5]
    by_cases hdc : d = c
    · subst hdc
      rw [va_up_self, va_up_self]
      exact ⟨hz, Nat.le_refl 1, fun q => by omega⟩
    · rw [va_up_ne _ _ hdc, va_up_ne _ _ hdc]
      exact v1 d hd
  · rcases hrow d k hd hk with ⟨h1, h2, -⟩ | ⟨h1, h2⟩
    · rw [h2]
      exact v2 d k hd h1
    · subst h1
      exact (en k h2).1
  · rcases hrow a k ha hk with ⟨h1, h2, -⟩ | ⟨h1, h2⟩ <;> rcases hrow d j hd hj with ⟨h3, h4, -⟩ | ⟨h3, h4⟩
    · rw [h2, h4] at hq
      exact v3 a d k j ha hd h1 h3 hq
    · subst h3
      rw [h2] at hq
      exact absurd hq (pd_ct_live (en j h4).2 ha h1)
    · subst h1
      rw [h4] at hq
      exact absurd hq.symm (pd_ct_live (en k h2).2 hd h3)
    · subst h1
      subst h3
      exact ei k j h2 h4 hq
theorem pd_eq_cp {S Q : pdS} (h : pd_eq S Q) (hS : pd_po S) (hQ : pd_po Q) {c add : Nat} (hc : c < 32) : pd_cp S c add ↔ pd_cp Q c add := by
  have hz := (h.1 c hc).1
  unfold pd_cp
  rw [← hz]
  by_cases hm : S 4 c % 64 ≠ 0
  · have hk : S 4 c / 64 < pd_pf (S 4 c) := by unfold pd_pf; omega
    rw [pd_eq_ct h hS hQ hc hk]
  · constructor
    · intro q
      exact absurd q.2.1 hm
    · intro q
      exact absurd q.2.1 hm
theorem pd_eq_nw {S Q : pdS} (h : pd_eq S Q) (hS : pd_po S) (hQ : pd_po Q) {c add k : Nat} (hc : c < 32) : pd_nw S c add k ↔ pd_nw Q c add k := by
  have hz := (h.1 c hc).1
  unfold pd_nw
  rw [pd_eq_cp h hS hQ hc, ← hz]
theorem pd_ap_eq {S S' Q Q' : pdS} {N M c add : Nat} {tp tq : Nat → Nat} (h : pd_ap N S S' c add tp) (g : pd_ap M Q Q' c add tq) (hc : c < 32) (hS : pd_po S) (hQ : pd_po Q) (e : pd_eq S Q) (ht : ∀ i, i < add → tp i = tq i) : pd_eq S' Q' := by
  have hcp := pd_eq_cp (add := add) e hS hQ hc
  have hnw := fun (k : Nat) => pd_eq_nw (add := add) (k := k) e hS hQ hc
  have hr := fun (d k : Nat) (hd : d < 32) (hk : k < pd_pf (S' 4 d)) => pd_ap_row h hd hk
  have gr := fun (d k : Nat) (hd : d < 32) (hk : k < pd_pf (Q' 4 d)) => pd_ap_row g hd hk
  obtain ⟨e4, e5, e6, e71, e72, eo, ec, en, ei, eb, et, e3, e0⟩ := h
  obtain ⟨g4, g5, g6, g71, g72, go, gc, gn, gi, gb, gt, g3, g0⟩ := g
  obtain ⟨h1, h2, h3, h4, h5, h6, h7⟩ := e
  have hz : ∀ d, d < 32 → S' 4 d = Q' 4 d := fun d hd => by
    rw [e4, g4, ← (h1 c hc).1]
    by_cases hdc : d = c
    · subst hdc
      rw [va_up_self, va_up_self]
    · rw [va_up_ne _ _ hdc, va_up_ne _ _ hdc]
      exact (h1 d hd).1
  refine ⟨fun d hd => ⟨hz d hd, ?_⟩, by rw [e6, g6]; exact h2, ?_, by rw [e72, g72], fun j hj => by rw [e72] at hj; exact absurd hj (Nat.not_lt_zero j), fun a d k ha hd hk hk2 => ?_, fun d i hd hi => ?_⟩
  · rw [e5, g5]
    by_cases hdc : d = c
    · subst hdc
      rw [va_up_self, va_up_self]
    · rw [va_up_ne _ _ hdc, va_up_ne _ _ hdc]
      exact (h1 d hd).2
  · rcases e71 with ⟨q1, q2⟩ | ⟨q1, q2⟩ <;> rcases g71 with ⟨r1, r2⟩ | ⟨r1, r2⟩
    · rw [q2, r2, h3]
    · exact absurd (hcp.mp q1) r1
    · exact absurd (hcp.mpr r1) q1
    · rw [q2, r2, h3]
  · have hkQ : k < pd_pf (Q' 4 a) := by rw [← hz a ha]; exact hk
    have hkQ2 : k < pd_pf (Q' 4 d) := by rw [← hz d hd]; exact hk2
    by_cases had : a = d
    · subst had
      exact ⟨fun _ => rfl, fun _ => rfl⟩
    · rcases hr a k ha hk with ⟨x1, x2, x3⟩ | ⟨x1, x2⟩ <;> rcases hr d k hd hk2 with ⟨y1, y2, y3⟩ | ⟨y1, y2⟩
      · rcases gr a k ha hkQ with ⟨z1, z2, z3⟩ | ⟨z1, z2⟩
        · rcases gr d k hd hkQ2 with ⟨w1, w2, w3⟩ | ⟨w1, w2⟩
          · rw [x2, y2, z2, w2]
            exact h6 a d k ha hd x1 y1
          · exact absurd ⟨w1, (hnw k).mpr w2⟩ y3
        · exact absurd ⟨z1, (hnw k).mpr z2⟩ x3
      · rcases gr a k ha hkQ with ⟨z1, z2, z3⟩ | ⟨z1, z2⟩
        · have w2 := (hnw k).mp y2
          subst y1
          rw [x2, z2]
          exact ⟨fun q => absurd q (pd_ct_live (en k y2).2 ha x1), fun q => absurd q (pd_ct_live (gn k w2).2 ha z1)⟩
        · exact absurd ⟨z1, (hnw k).mpr z2⟩ x3
      · rcases gr d k hd hkQ2 with ⟨z1, z2, z3⟩ | ⟨z1, z2⟩
        · have w2 := (hnw k).mp x2
          subst x1
          rw [y2, z2]
          exact ⟨fun q => absurd q.symm (pd_ct_live (en k x2).2 hd y1), fun q => absurd q.symm (pd_ct_live (gn k w2).2 hd z1)⟩
        · exact absurd ⟨z1, (hnw k).mpr z2⟩ y3
      · exact absurd (x1.trans y1.symm) had
  · by_cases hdc : d = c
    · subst hdc
      rw [e4, va_up_self] at hi
      by_cases hlt : i < S 4 d
      · rw [eb d i hd hlt, gb d i hd (by rw [← (h1 d hd).1]; exact hlt)]
        exact h7 d i hd hlt
      · obtain ⟨t, rfl⟩ : ∃ t, i = S 4 d + t := ⟨i - S 4 d, by omega⟩
        have ht1 : t < add := by omega
        rw [et t ht1, ht t ht1, (h1 d hd).1]
        exact (gt t ht1).symm
    · rw [e4, va_up_ne _ _ hdc] at hi
      rw [eb d i hd hi, gb d i hd (by rw [← (h1 d hd).1]; exact hi)]
      exact h7 d i hd hi
end
section
/-! ROWS: instructions on ints that are natural numbers -/
section PQ
variable {p : Program} {l : Launch} {e : Env} {R : Room} {s : State} {m : MethodId} {args : Array Value} {below : List Frame} {meth : Method} {c : Code} {H : Heap} {locs : List Loc} {cells slots : Nat} {Q : State → Prop}
variable {cc : ByteArray} {pc : Nat} {ls : Array Slot} {rest : List Value}
theorem pq_inc (a : Nat) : nI a + Int32.ofInt 1 = nI (a + 1) := nI_1 a
theorem pq_top {x y : Int32} (h : x = y) (k : W p l e R s m args below meth c H locs cells slots Q (F0 m pc ls (.int y :: rest))) : W p l e R s m args below meth c H locs cells slots Q (F0 m pc ls (.int x :: rest)) := by subst h; exact k
theorem pq_topl {x y : Int64} (h : x = y) (k : W p l e R s m args below meth c H locs cells slots Q (F0 m pc ls (.long y :: rest))) : W p l e R s m args below meth c H locs cells slots Q (F0 m pc ls (.long x :: rest)) := by subst h; exact k
theorem pq_topr {x y : Nat} (h : x = y) (k : W p l e R s m args below meth c H locs cells slots Q (F0 m pc ls (.ref y :: rest))) : W p l e R s m args below meth c H locs cells slots Q (F0 m pc ls (.ref x :: rest)) := by subst h; exact k
theorem pq_iadd (hx : p.tables.exec = Jvm.exec) (hb : c.code = cc) {a b : Nat} (hdg : decode cc pc = .ok (.iadd, 1)) (k : W p l e R s m args below meth c H locs cells slots Q (F0 m (pc + 1) ls (.int (nI (a + b)) :: rest))) : W p l e R s m args below meth c H locs cells slots Q (F0 m pc ls (.int (nI b) :: .int (nI a) :: rest)) := lv_iadd hx hb hdg (pq_top (nI_add a b) k)
theorem pq_isub (hx : p.tables.exec = Jvm.exec) (hb : c.code = cc) {a b : Nat} (h : b ≤ a) (hdg : decode cc pc = .ok (.isub, 1)) (k : W p l e R s m args below meth c H locs cells slots Q (F0 m (pc + 1) ls (.int (nI (a - b)) :: rest))) : W p l e R s m args below meth c H locs cells slots Q (F0 m pc ls (.int (nI b) :: .int (nI a) :: rest)) := lv_isub hx hb hdg (pq_top (pk_sub h) k)
theorem pq_imul (hx : p.tables.exec = Jvm.exec) (hb : c.code = cc) {a b : Nat} (hdg : decode cc pc = .ok (.imul, 1)) (k : W p l e R s m args below meth c H locs cells slots Q (F0 m (pc + 1) ls (.int (nI (a * b)) :: rest))) : W p l e R s m args below meth c H locs cells slots Q (F0 m pc ls (.int (nI b) :: .int (nI a) :: rest)) := lv_imul hx hb hdg (pq_top (pk_mul a b) k)
theorem pq_idiv (hx : p.tables.exec = Jvm.exec) (hb : c.code = cc) {a b : Nat} (ha : a < 2 ^ 31) (h0 : 0 < b) (hb2 : b < 2 ^ 31) (hdg : decode cc pc = .ok (.idiv, 1)) (k : W p l e R s m args below meth c H locs cells slots Q (F0 m (pc + 1) ls (.int (nI (a / b)) :: rest))) : W p l e R s m args below meth c H locs cells slots Q (F0 m pc ls (.int (nI b) :: .int (nI a) :: rest)) := lv_idiv hx hb hdg (nI_ne0 h0 hb2) (pq_top (pk_div ha h0 hb2) k)
theorem pq_irem (hx : p.tables.exec = Jvm.exec) (hb : c.code = cc) {a b : Nat} (ha : a < 2 ^ 31) (h0 : 0 < b) (hb2 : b < 2 ^ 31) (hdg : decode cc pc = .ok (.irem, 1)) (k : W p l e R s m args below meth c H locs cells slots Q (F0 m (pc + 1) ls (.int (nI (a % b)) :: rest))) : W p l e R s m args below meth c H locs cells slots Q (F0 m pc ls (.int (nI b) :: .int (nI a) :: rest)) := lv_irem hx hb hdg (nI_ne0 h0 hb2) (pq_top (pk_rem ha h0 hb2) k)
theorem pq_icmp_eq (hx : p.tables.exec = Jvm.exec) (hb : c.code = cc) {a b : Nat} {off : Int} {tgt : Nat} (ha : a < 2 ^ 31) (hb2 : b < 2 ^ 31) (hdg : decode cc pc = .ok (.if_icmp .eq off, 3)) (ht : (pc : Int) + off = (tgt : Int)) (kt : a = b → W p l e R s m args below meth c H locs cells slots Q (F0 m tgt ls rest)) (kf : a ≠ b → W p l e R s m args below meth c H locs cells slots Q (F0 m (pc + 3) ls rest)) : W p l e R s m args below meth c H locs cells slots Q (F0 m pc ls (.int (nI b) :: .int (nI a) :: rest)) := lv_icmp_eq hx hb hdg ht (fun h => kt ((nI_eq ha hb2).mp h)) (fun h => kf (fun q => h ((nI_eq ha hb2).mpr q)))
theorem pq_icmp_ne (hx : p.tables.exec = Jvm.exec) (hb : c.code = cc) {a b : Nat} {off : Int} {tgt : Nat} (ha : a < 2 ^ 31) (hb2 : b < 2 ^ 31) (hdg : decode cc pc = .ok (.if_icmp .ne off, 3)) (ht : (pc : Int) + off = (tgt : Int)) (kt : a ≠ b → W p l e R s m args below meth c H locs cells slots Q (F0 m tgt ls rest)) (kf : a = b → W p l e R s m args below meth c H locs cells slots Q (F0 m (pc + 3) ls rest)) : W p l e R s m args below meth c H locs cells slots Q (F0 m pc ls (.int (nI b) :: .int (nI a) :: rest)) := lv_icmp_ne hx hb hdg ht (fun h => kt (fun q => h ((nI_eq ha hb2).mpr q))) (fun h => kf ((nI_eq ha hb2).mp h))
theorem pq_icmp_lt (hx : p.tables.exec = Jvm.exec) (hb : c.code = cc) {a b : Nat} {off : Int} {tgt : Nat} (ha : a < 2 ^ 31) (hb2 : b < 2 ^ 31) (hdg : decode cc pc = .ok (.if_icmp .lt off, 3)) (ht : (pc : Int) + off = (tgt : Int)) (kt : a < b → W p l e R s m args below meth c H locs cells slots Q (F0 m tgt ls rest)) (kf : b ≤ a → W p l e R s m args below meth c H locs cells slots Q (F0 m (pc + 3) ls rest)) : W p l e R s m args below meth c H locs cells slots Q (F0 m pc ls (.int (nI b) :: .int (nI a) :: rest)) := lv_icmp_lt hx hb hdg ht (fun h => kt ((nI_ltI ha hb2).mp h)) (fun h => kf (Nat.not_lt.mp fun q => h ((nI_ltI ha hb2).mpr q)))
theorem pq_icmp_ge (hx : p.tables.exec = Jvm.exec) (hb : c.code = cc) {a b : Nat} {off : Int} {tgt : Nat} (ha : a < 2 ^ 31) (hb2 : b < 2 ^ 31) (hdg : decode cc pc = .ok (.if_icmp .ge off, 3)) (ht : (pc : Int) + off = (tgt : Int)) (kt : b ≤ a → W p l e R s m args below meth c H locs cells slots Q (F0 m tgt ls rest)) (kf : a < b → W p l e R s m args below meth c H locs cells slots Q (F0 m (pc + 3) ls rest)) : W p l e R s m args below meth c H locs cells slots Q (F0 m pc ls (.int (nI b) :: .int (nI a) :: rest)) := lv_icmp_ge hx hb hdg ht (fun h => kt ((nI_leI hb2 ha).mp h)) (fun h => kf (Nat.not_le.mp fun q => h ((nI_leI hb2 ha).mpr q)))
theorem pq_icmp_gt (hx : p.tables.exec = Jvm.exec) (hb : c.code = cc) {a b : Nat} {off : Int} {tgt : Nat} (ha : a < 2 ^ 31) (hb2 : b < 2 ^ 31) (hdg : decode cc pc = .ok (.if_icmp .gt off, 3)) (ht : (pc : Int) + off = (tgt : Int)) (kt : b < a → W p l e R s m args below meth c H locs cells slots Q (F0 m tgt ls rest)) (kf : a ≤ b → W p l e R s m args below meth c H locs cells slots Q (F0 m (pc + 3) ls rest)) : W p l e R s m args below meth c H locs cells slots Q (F0 m pc ls (.int (nI b) :: .int (nI a) :: rest)) := lv_icmp_gt hx hb hdg ht (fun h => kt ((nI_ltI hb2 ha).mp h)) (fun h => kf (Nat.not_lt.mp fun q => h ((nI_ltI hb2 ha).mpr q)))
theorem pq_icmp_le (hx : p.tables.exec = Jvm.exec) (hb : c.code = cc) {a b : Nat} {off : Int} {tgt : Nat} (ha : a < 2 ^ 31) (hb2 : b < 2 ^ 31) (hdg : decode cc pc = .ok (.if_icmp .le off, 3)) (ht : (pc : Int) + off = (tgt : Int)) (kt : a ≤ b → W p l e R s m args below meth c H locs cells slots Q (F0 m tgt ls rest)) (kf : b < a → W p l e R s m args below meth c H locs cells slots Q (F0 m (pc + 3) ls rest)) : W p l e R s m args below meth c H locs cells slots Q (F0 m pc ls (.int (nI b) :: .int (nI a) :: rest)) := lv_icmp_le hx hb hdg ht (fun h => kt ((nI_leI ha hb2).mp h)) (fun h => kf (Nat.not_le.mp fun q => h ((nI_leI ha hb2).mpr q)))
theorem pq_if_eq (hx : p.tables.exec = Jvm.exec) (hb : c.code = cc) {a : Nat} {off : Int} {tgt : Nat} (ha : a < 2 ^ 31) (hdg : decode cc pc = .ok (.ifCond .eq off, 3)) (ht : (pc : Int) + off = (tgt : Int)) (kt : a = 0 → W p l e R s m args below meth c H locs cells slots Q (F0 m tgt ls rest)) (kf : a ≠ 0 → W p l e R s m args below meth c H locs cells slots Q (F0 m (pc + 3) ls rest)) : W p l e R s m args below meth c H locs cells slots Q (F0 m pc ls (.int (nI a) :: rest)) := lv_if_eq hx hb hdg ht (fun h => kt ((nI_eq ha (show (0 : Nat) < 2 ^ 31 by decide)).mp h)) (fun h => kf (fun q => h ((nI_eq ha (show (0 : Nat) < 2 ^ 31 by decide)).mpr q)))
theorem pq_if_ne (hx : p.tables.exec = Jvm.exec) (hb : c.code = cc) {a : Nat} {off : Int} {tgt : Nat} (ha : a < 2 ^ 31) (hdg : decode cc pc = .ok (.ifCond .ne off, 3)) (ht : (pc : Int) + off = (tgt : Int)) (kt : a ≠ 0 → W p l e R s m args below meth c H locs cells slots Q (F0 m tgt ls rest)) (kf : a = 0 → W p l e R s m args below meth c H locs cells slots Q (F0 m (pc + 3) ls rest)) : W p l e R s m args below meth c H locs cells slots Q (F0 m pc ls (.int (nI a) :: rest)) := lv_if_ne hx hb hdg ht (fun h => kt (fun q => h ((nI_eq ha (show (0 : Nat) < 2 ^ 31 by decide)).mpr q))) (fun h => kf ((nI_eq ha (show (0 : Nat) < 2 ^ 31 by decide)).mp h))
theorem pq_if_lt (hx : p.tables.exec = Jvm.exec) (hb : c.code = cc) {a : Nat} {off : Int} {tgt : Nat} (ha : a < 2 ^ 31) (hdg : decode cc pc = .ok (.ifCond .lt off, 3)) (ht : (pc : Int) + off = (tgt : Int)) (kt : False → W p l e R s m args below meth c H locs cells slots Q (F0 m tgt ls rest)) (kf : True → W p l e R s m args below meth c H locs cells slots Q (F0 m (pc + 3) ls rest)) : W p l e R s m args below meth c H locs cells slots Q (F0 m pc ls (.int (nI a) :: rest)) := lv_if_lt hx hb hdg ht (fun h => kt (absurd h (nI_pos ha))) (fun h => kf (trivial))
theorem pq_if_ge (hx : p.tables.exec = Jvm.exec) (hb : c.code = cc) {a : Nat} {off : Int} {tgt : Nat} (ha : a < 2 ^ 31) (hdg : decode cc pc = .ok (.ifCond .ge off, 3)) (ht : (pc : Int) + off = (tgt : Int)) (kt : True → W p l e R s m args below meth c H locs cells slots Q (F0 m tgt ls rest)) (kf : False → W p l e R s m args below meth c H locs cells slots Q (F0 m (pc + 3) ls rest)) : W p l e R s m args below meth c H locs cells slots Q (F0 m pc ls (.int (nI a) :: rest)) := lv_if_ge hx hb hdg ht (fun h => kt (trivial)) (fun h => kf (h (nI_pos' ha)))
theorem pq_if_gt (hx : p.tables.exec = Jvm.exec) (hb : c.code = cc) {a : Nat} {off : Int} {tgt : Nat} (ha : a < 2 ^ 31) (hdg : decode cc pc = .ok (.ifCond .gt off, 3)) (ht : (pc : Int) + off = (tgt : Int)) (kt : 0 < a → W p l e R s m args below meth c H locs cells slots Q (F0 m tgt ls rest)) (kf : a = 0 → W p l e R s m args below meth c H locs cells slots Q (F0 m (pc + 3) ls rest)) : W p l e R s m args below meth c H locs cells slots Q (F0 m pc ls (.int (nI a) :: rest)) := lv_if_gt hx hb hdg ht (fun h => kt ((nI_ltI (show (0 : Nat) < 2 ^ 31 by decide) ha).mp h)) (fun h => kf (Nat.le_zero.mp (Nat.not_lt.mp fun q => h ((nI_ltI (show (0 : Nat) < 2 ^ 31 by decide) ha).mpr q))))
theorem pq_if_le (hx : p.tables.exec = Jvm.exec) (hb : c.code = cc) {a : Nat} {off : Int} {tgt : Nat} (ha : a < 2 ^ 31) (hdg : decode cc pc = .ok (.ifCond .le off, 3)) (ht : (pc : Int) + off = (tgt : Int)) (kt : a = 0 → W p l e R s m args below meth c H locs cells slots Q (F0 m tgt ls rest)) (kf : 0 < a → W p l e R s m args below meth c H locs cells slots Q (F0 m (pc + 3) ls rest)) : W p l e R s m args below meth c H locs cells slots Q (F0 m pc ls (.int (nI a) :: rest)) := lv_if_le hx hb hdg ht (fun h => kt (Nat.le_zero.mp ((nI_leI ha (show (0 : Nat) < 2 ^ 31 by decide)).mp h))) (fun h => kf (Nat.not_le.mp fun q => h ((nI_leI ha (show (0 : Nat) < 2 ^ 31 by decide)).mpr q)))
theorem pq_iald {D : va_G} {cl : List vw_C} {a : Nat} {tys : List (ClassId × FieldType)} {ws : va_W} (hx : p.tables.exec = Jvm.exec) (hb : c.code = cc) (hK : va_K D cl tys s) (hP : va_P D cl ws H) (q0 t0 : Nat) {cA : ClassId} {n : Nat} {f : Nat → Nat} (ha : ws[q0]? = some (a, .inl (cA, n, .inl (fun j => nI (f j))))) (ht : tys[t0]? = some (cA, .int)) {i : Nat} (hi : i < n) (hn : n < 2 ^ 31) (hdg : decode cc pc = .ok (.iaload, 1)) (kk : W p l e R s m args below meth c H locs cells slots Q (F0 m (pc + 1) ls (.int (nI (f i)) :: rest))) : W p l e R s m args below meth c H locs cells slots Q (F0 m pc ls (.int (nI i) :: .ref a :: rest)) := va_iald hx hb hK hP q0 t0 ha ht (vp_in_nI hi hn) hdg (by rw [nI_clamp (Nat.lt_trans hi hn)]; exact kk)
theorem pq_zald {D : va_G} {cl : List vw_C} {a : Nat} {tys : List (ClassId × FieldType)} {ws : va_W} (hx : p.tables.exec = Jvm.exec) (hb : c.code = cc) (hK : va_K D cl tys s) (hP : va_P D cl ws H) (q0 t0 : Nat) {cA : ClassId} {n : Nat} {f : Nat → Nat} (ha : ws[q0]? = some (a, .inl (cA, n, .inl (fun j => nI (f j))))) (ht : tys[t0]? = some (cA, .boolean)) {i : Nat} (hi : i < n) (hn : n < 2 ^ 31) (hdg : decode cc pc = .ok (.baload, 1)) (kk : W p l e R s m args below meth c H locs cells slots Q (F0 m (pc + 1) ls (.int (nI (f i)) :: rest))) : W p l e R s m args below meth c H locs cells slots Q (F0 m pc ls (.int (nI i) :: .ref a :: rest)) := va_zald hx hb hK hP q0 t0 ha ht (vp_in_nI hi hn) hdg (by rw [nI_clamp (Nat.lt_trans hi hn)]; exact kk)
theorem pq_bald {D : va_G} {cl : List vw_C} {a : Nat} {tys : List (ClassId × FieldType)} {ws : va_W} (hx : p.tables.exec = Jvm.exec) (hb : c.code = cc) (hK : va_K D cl tys s) (hP : va_P D cl ws H) (q0 t0 : Nat) {cA : ClassId} {n : Nat} {f : Nat → Nat} (ha : ws[q0]? = some (a, .inl (cA, n, .inl (fun j => sb_b (f j))))) (ht : tys[t0]? = some (cA, .byte)) {i : Nat} (hi : i < n) (hn : n < 2 ^ 31) (hdg : decode cc pc = .ok (.baload, 1)) (kk : W p l e R s m args below meth c H locs cells slots Q (F0 m (pc + 1) ls (.int (sb_b (f i)) :: rest))) : W p l e R s m args below meth c H locs cells slots Q (F0 m pc ls (.int (nI i) :: .ref a :: rest)) := va_bald hx hb hK hP q0 t0 ha ht (vp_in_nI hi hn) hdg (by rw [nI_clamp (Nat.lt_trans hi hn)]; exact kk)
theorem pq_updI (f : Nat → Nat) (k v : Nat) : upd (fun j => nI (f j)) k (nI v) = fun j => nI (va_up f k v j) := by
  funext j
  unfold upd va_up
  by_cases h : j = k <;> simp [h]
theorem pq_updB (f : Nat → Nat) (k v : Nat) : upd (fun j => sb_b (f j)) k (vp_nar .byte (sb_b v)) = fun j => sb_b (va_up f k v j) := by
  funext j
  have e : vp_nar .byte (sb_b v) = sb_b v := pk_vb (nI v)
  rw [e]
  unfold upd va_up
  by_cases h : j = k <;> simp [h]
end PQ
end
section
/-! PURE, 4: the pool under the class's loops -/
def pd_fr (S S' : pdS) : Prop := (∀ b, b ≠ 1 → b ≠ 2 → b ≠ 7 → S' b = S b) ∧ ∀ j, j ≠ 0 → S' 7 j = S 7 j
theorem pd_fr_rf (S : pdS) : pd_fr S S := ⟨fun _ _ _ _ => rfl, fun _ _ => rfl⟩
theorem pd_fr_tr {S T U : pdS} (h : pd_fr S T) (g : pd_fr T U) : pd_fr S U := ⟨fun b h1 h2 h3 => (g.1 b h1 h2 h3).trans (h.1 b h1 h2 h3), fun j hj => (g.2 j hj).trans (h.2 j hj)⟩
theorem pd_fr_leave (S : pdS) (p : Nat) : pd_fr S (pd_leave S p) := by
  unfold pd_leave
  by_cases h : S 1 p = 1
  · rw [if_pos h]
    refine ⟨fun b h1 h2 h7 => ?_, fun j hj => ?_⟩
    · rw [pd_bk _ h7, pd_bk _ h2, pd_bk _ h1]
    · rw [pd_ne _ hj, pd_bk _ (show (7 : Nat) ≠ 2 by decide), pd_bk _ (show (7 : Nat) ≠ 1 by decide)]
  · rw [if_neg h]
    refine ⟨fun b h1 h2 h7 => pd_bk _ h1, fun j hj => ?_⟩
    rw [pd_bk _ (show (7 : Nat) ≠ 1 by decide)]
theorem pd_fr_join (S : pdS) (p : Nat) : pd_fr S (pd_join S p) := by
  unfold pd_join
  refine ⟨fun b h1 _ _ => pd_bk _ h1, fun j hj => ?_⟩
  rw [pd_bk _ (show (7 : Nat) ≠ 1 by decide)]
theorem pd_fr_take (S : pdS) : pd_fr S (pd_take S) := by
  unfold pd_take
  refine ⟨fun b h1 _ h7 => ?_, fun j hj => ?_⟩
  · rw [pd_bk _ h1, pd_bk _ h7]
  · rw [pd_bk _ (show (7 : Nat) ≠ 1 by decide), pd_ne _ hj]
theorem pd_rc_hd (r : Nat → Nat) (p k b : Nat) (h : k < b) : pd_rc (fun j => r (k + j)) p (b - k) = (if r k = p then 1 else 0) + pd_rc (fun j => r (k + 1 + j)) p (b - (k + 1)) := by
  rw [show b - k = 1 + (b - (k + 1)) by omega, pd_rc_add]
  simp only [pd_rc, Nat.add_zero, Nat.zero_add]
  congr 1
  refine pd_rc_congr (fun j _ => ?_)
  rw [Nat.add_assoc]
theorem pd_leave_step {n : Nat} {S : pdS} {g r : Nat → Nat} {k b : Nat} (hk : k < b) (hp : r k < n) (h : pd_ok n S (fun p => g p + pd_rc (fun j => r (k + j)) p (b - k))) : S 7 0 < n ∧ 0 < S 1 (r k) ∧ pd_ok n (pd_leave S (r k)) (fun p => g p + pd_rc (fun j => r (k + 1 + j)) p (b - (k + 1))) := by
  have hf : 0 < (fun p => g p + pd_rc (fun j => r (k + j)) p (b - k)) (r k) := by
    show 0 < g (r k) + pd_rc (fun j => r (k + j)) (r k) (b - k)
    rw [pd_rc_hd r (r k) k b hk, if_pos rfl]
    omega
  obtain ⟨h1, h2, h3⟩ := pd_leave_ok h hp hf
  refine ⟨h1, by rw [h2]; exact hf, pd_ok_congr h3 (fun p _ => ?_)⟩
  by_cases hpk : p = r k
  · subst hpk
    rw [va_up_self]
    show g (r k) + pd_rc (fun j => r (k + j)) (r k) (b - k) - 1 = _
    rw [pd_rc_hd r (r k) k b hk, if_pos rfl]
    omega
  · rw [va_up_ne _ _ hpk]
    show g p + pd_rc (fun j => r (k + j)) p (b - k) = _
    rw [pd_rc_hd r p k b hk, if_neg (fun q => hpk q.symm)]
    omega
theorem pd_join_step {n : Nat} {S : pdS} {g r : Nat → Nat} {k : Nat} (hp : r k < n) (hg : 0 < g (r k)) (h : pd_ok n S (fun p => g p + pd_rc r p k)) : pd_ok n (pd_join S (r k)) (fun p => g p + pd_rc r p (k + 1)) := by
  have hf : 0 < (fun p => g p + pd_rc r p k) (r k) := by
    show 0 < g (r k) + pd_rc r (r k) k
    omega
  refine pd_ok_congr (pd_join_ok h hp hf) (fun p _ => ?_)
  simp only [pd_rc]
  by_cases hpk : p = r k
  · subst hpk
    rw [va_up_self, if_pos rfl]
    omega
  · rw [va_up_ne _ _ hpk, if_neg (fun q => hpk q.symm)]
    omega
theorem pd_be_ct {S S' : pdS} {to fr : Nat} (h : pd_be S S' to fr) (ht : to < 32) (hf : fr < 32) (p : Nat) : pd_ct S' p + pd_rc (S (8 + to)) p (pd_pf (S 4 to)) = pd_ct S p + pd_rc (S (8 + fr)) p (pd_pf (S 4 fr)) := by
  have e : pd_ct S' p = pd_sm (va_up (fun c => pd_rc (S (8 + c)) p (pd_pf (S 4 c))) to (pd_rc (S (8 + fr)) p (pd_pf (S 4 fr)))) 32 := by
    refine pd_sm_congr (fun c hc => ?_)
    obtain ⟨e0, e3, e4, e5, e6, e71, e72, er, eo⟩ := h
    by_cases hct : c = to
    · subst hct
      rw [va_up_self, e4, va_up_self]
      exact pd_rc_congr (fun k hk => er k hk)
    · rw [va_up_ne _ _ hct, e4, va_up_ne _ _ hct]
      exact pd_rc_congr (fun k hk => eo c k hc hct hk)
  rw [e]
  exact pd_sm_up (f := fun c => pd_rc (S (8 + c)) p (pd_pf (S 4 c))) ht
theorem pd_sh_ct {S S' : pdS} {c s : Nat} (h : pd_sh S S' c s) (hc : c < 32) (hs : s ≤ S 4 c) (p : Nat) : pd_ct S' p + pd_rc (fun j => S (8 + c) (pd_pf s + j)) p (pd_pf (S 4 c) - pd_pf s) = pd_ct S p := by
  have e : pd_ct S' p = pd_sm (va_up (fun d => pd_rc (S (8 + d)) p (pd_pf (S 4 d))) c (pd_rc (S (8 + c)) p (pd_pf s))) 32 := by
    refine pd_sm_congr (fun d hd => ?_)
    obtain ⟨e0, e3, e4, e5, e6, e71, e72, er⟩ := h
    rw [er d hd]
    by_cases hdc : d = c
    · subst hdc
      rw [va_up_self, e4, va_up_self]
    · rw [va_up_ne _ _ hdc, e4, va_up_ne _ _ hdc]
  have h1 := pd_sm_up (f := fun d => pd_rc (S (8 + d)) p (pd_pf (S 4 d))) (v := pd_rc (S (8 + c)) p (pd_pf s)) hc
  have h2 : pd_rc (S (8 + c)) p (pd_pf (S 4 c)) = pd_rc (S (8 + c)) p (pd_pf s) + pd_rc (fun j => S (8 + c) (pd_pf s + j)) p (pd_pf (S 4 c) - pd_pf s) := by
    have hm := pd_pf_mono hs
    have := pd_rc_add (S (8 + c)) p (pd_pf s) (pd_pf (S 4 c) - pd_pf s)
    rw [← this, show pd_pf s + (pd_pf (S 4 c) - pd_pf s) = pd_pf (S 4 c) by omega]
  rw [e]
  unfold pd_ct
  try dsimp only at h1
  omega
end
section
/-! PURE, 5: shorten and become of the class, put together -/
theorem pd_sh_of {S T S' : pdS} {c s : Nat} (hf : pd_fr S T) (he : S' = pd_st T 4 c s) : pd_sh S S' c s := by
  subst he
  refine ⟨?_, ?_, ?_, ?_, ?_, ?_, ?_, fun d _ => ?_⟩
  · rw [pd_bk _ (by decide), hf.1 0 (by decide) (by decide) (by decide)]
  · rw [pd_bk _ (by decide), hf.1 3 (by decide) (by decide) (by decide)]
  · rw [pd_own, hf.1 4 (by decide) (by decide) (by decide)]
  · rw [pd_bk _ (by decide), hf.1 5 (by decide) (by decide) (by decide)]
  · rw [pd_bk _ (by decide), hf.1 6 (by decide) (by decide) (by decide)]
  · rw [pd_bk _ (by decide), hf.2 1 (by decide)]
  · rw [pd_bk _ (by decide), hf.2 2 (by decide)]
  · rw [pd_bk _ (by omega), hf.1 (8 + d) (by omega) (by omega) (by omega)]
theorem pd_ok_st {n : Nat} {S : pdS} {f : Nat → Nat} {b j v : Nat} (h : pd_ok n S f) (h1 : b ≠ 1) (h2 : b ≠ 2) (h7 : b ≠ 7 ∨ j ≠ 0) : pd_ok n (pd_st S b j v) f := by
  refine pd_ok_eqv h (pd_bk _ (fun q => h1 q.symm)) (pd_bk _ (fun q => h2 q.symm)) ?_
  rcases h7 with h7 | h7
  · rw [pd_bk _ (fun q => h7 q.symm)]
  · rw [pd_at, if_neg (fun q => h7 q.2.symm)]
/-- the tail of row c behind size s, counted -/
def pd_tl (S : pdS) (c s p : Nat) : Nat := pd_rc (fun j => S (8 + c) (pd_pf s + j)) p (pd_pf (S 4 c) - pd_pf s)
theorem pd_rc_ct {S : pdS} {c : Nat} (hc : c < 32) (p : Nat) : pd_rc (S (8 + c)) p (pd_pf (S 4 c)) ≤ pd_ct S p := pd_sm_le (f := fun d => pd_rc (S (8 + d)) p (pd_pf (S 4 d))) hc
theorem pd_tl_le {S : pdS} {c s : Nat} (hc : c < 32) (hs : s ≤ S 4 c) (p : Nat) : pd_tl S c s p ≤ pd_ct S p := by
  have hm := pd_pf_mono hs
  have h1 := pd_rc_add (S (8 + c)) p (pd_pf s) (pd_pf (S 4 c) - pd_pf s)
  rw [show pd_pf s + (pd_pf (S 4 c) - pd_pf s) = pd_pf (S 4 c) by omega] at h1
  have h2 := pd_rc_ct (S := S) hc p
  unfold pd_tl
  omega
theorem pd_sh_pre {n : Nat} {S : pdS} {c s : Nat} (hc : c < 32) (hs : s ≤ S 4 c) (h : pd_ok n S (pd_ct S)) : pd_ok n S (fun p => (pd_ct S p - pd_tl S c s p) + pd_rc (fun j => S (8 + c) (pd_pf s + j)) p (pd_pf (S 4 c) - pd_pf s)) := by
  refine pd_ok_congr h (fun p _ => ?_)
  have := pd_tl_le hc hs p
  show pd_ct S p = pd_ct S p - pd_tl S c s p + pd_tl S c s p
  omega
theorem pd_sh_post {n : Nat} {S S' : pdS} {c s : Nat} (hc : c < 32) (hs : s ≤ S 4 c) (h : pd_sh S S' c s) (ho : pd_ok n S' (fun p => pd_ct S p - pd_tl S c s p)) : pd_ok n S' (pd_ct S') := by
  refine pd_ok_congr ho (fun p _ => ?_)
  have h1 := pd_sh_ct h hc hs p
  show pd_ct S p - pd_tl S c s p = pd_ct S' p
  unfold pd_tl
  omega
/-- become: what is there behind joining (T), leaving (U) and the three stores -/
theorem pd_be_of {S T U S' : pdS} {to fr : Nat} (ht : to < 32) (hne : to ≠ fr) (hT : pd_fr S T) (hU : pd_sh T U to 0) (e0 : S' 0 = U 0) (e3 : S' 3 = U 3) (e4 : S' 4 = va_up (U 4) to (U 4 fr)) (e5 : S' 5 = va_up (U 5) to (U 5 fr)) (e6 : S' 6 = U 6) (e7 : S' 7 = U 7)
    (er : S' (8 + to) = va_cpy (U (8 + fr)) (U (8 + to)) 0 0 (pd_pf (S 4 fr))) (eo : ∀ d, d < 32 → d ≠ to → S' (8 + d) = U (8 + d)) (hf : fr < 32) : pd_be S S' to fr := by
  obtain ⟨u0, u3, u4, u5, u6, u71, u72, ur⟩ := hU
  have t4 : T 4 = S 4 := hT.1 4 (by decide) (by decide) (by decide)
  have t5 : T 5 = S 5 := hT.1 5 (by decide) (by decide) (by decide)
  have tr : ∀ d, T (8 + d) = S (8 + d) := fun d => hT.1 (8 + d) (by omega) (by omega) (by omega)
  have hfr : U 4 fr = S 4 fr := by rw [u4, va_up_ne _ _ (fun q => hne q.symm), t4]
  refine ⟨?_, ?_, ?_, ?_, ?_, ?_, ?_, fun k hk => ?_, fun d k hd hdt hk => ?_⟩
  · rw [e0, u0, hT.1 0 (by decide) (by decide) (by decide)]
  · rw [e3, u3, hT.1 3 (by decide) (by decide) (by decide)]
  · rw [e4, hfr, u4, bx_uu, t4]
  · rw [e5, u5, t5]
  · rw [e6, u6, hT.1 6 (by decide) (by decide) (by decide)]
  · rw [e7, u71, hT.2 1 (by decide)]
  · rw [e7, u72, hT.2 2 (by decide)]
  · rw [er, pk_cpy_in (Nat.zero_le k) (by omega), ur fr hf, tr fr, Nat.sub_zero, Nat.zero_add]
  · rw [eo d hd hdt, ur d hd, tr d]
theorem pd_be_pre {n : Nat} {S T : pdS} {to fr : Nat} (ht : to < 32) (h : pd_ok n T (fun p => pd_ct S p + pd_rc (S (8 + fr)) p (pd_pf (S 4 fr)))) (hT : pd_fr S T) : pd_ok n T (fun p => (pd_ct S p + pd_rc (S (8 + fr)) p (pd_pf (S 4 fr)) - pd_rc (S (8 + to)) p (pd_pf (S 4 to))) + pd_rc (fun j => T (8 + to) (pd_pf 0 + j)) p (pd_pf (T 4 to) - pd_pf 0)) := by
  refine pd_ok_congr h (fun p _ => ?_)
  have h1 := pd_rc_ct (S := S) ht p
  have t4 : T 4 = S 4 := hT.1 4 (by decide) (by decide) (by decide)
  have tr : T (8 + to) = S (8 + to) := hT.1 (8 + to) (by omega) (by omega) (by omega)
  have e : pd_rc (fun j => T (8 + to) (pd_pf 0 + j)) p (pd_pf (T 4 to) - pd_pf 0) = pd_rc (S (8 + to)) p (pd_pf (S 4 to)) := by
    have z : pd_pf 0 = 0 := rfl
    rw [t4, tr, z, Nat.sub_zero]
    exact pd_rc_congr (fun k _ => by rw [Nat.zero_add])
  show _ = _ + _
  rw [e]
  omega
theorem pd_be_post {n : Nat} {S S' : pdS} {to fr : Nat} (ht : to < 32) (hf : fr < 32) (h : pd_be S S' to fr) (ho : pd_ok n S' (fun p => pd_ct S p + pd_rc (S (8 + fr)) p (pd_pf (S 4 fr)) - pd_rc (S (8 + to)) p (pd_pf (S 4 to)))) : pd_ok n S' (pd_ct S') := by
  refine pd_ok_congr ho (fun p _ => ?_)
  have h1 := pd_be_ct h ht hf p
  omega
theorem pd_be_self (S : pdS) (c : Nat) : pd_be S S c c := by
  have e : ∀ f : Nat → Nat, f = va_up f c (f c) := fun f => by
    funext j
    by_cases h : j = c
    · subst h
      rw [va_up_self]
    · rw [va_up_ne _ _ h]
  exact ⟨rfl, rfl, e _, e _, rfl, rfl, rfl, fun _ _ => rfl, fun _ _ _ _ _ => rfl⟩
end
section
/-! PURE, 6: bytes of longs (wb_tb, wb_inj, wb_c, wb_cu, wb_sm, wb_shl, wb_and, wb_or and their like begin as rows of kit/laws/BITS.to-paste) -/
theorem wb_tb (n : Nat) : (lN n).toBitVec = BitVec.ofNat 64 n := rfl
theorem wb_inj {a b : Int64} (h : a.toBitVec = b.toBitVec) : a = b := Int64.toBitVec_inj.mp h
theorem wb_c : ∀ k, k < 64 → ((nI k).toInt64 &&& 63) = lN k := by decide +kernel
theorem wb_cu : ∀ k, k < 64 → ((nI k).toInt64.toUInt64 &&& Int64.toUInt64 63) = UInt64.ofNat k := by decide +kernel
theorem wb_sm : ∀ k, k < 64 → (BitVec.ofNat 64 k).smod 64 = BitVec.ofNat 64 k := by decide +kernel
/-- byte k of a long -/
def pd_bv (x : Int64) (k : Nat) : Nat := x.toBitVec.toNat / 2 ^ (8 * k) % 2 ^ 8
theorem pd_bv_lt (x : Int64) (k : Nat) : pd_bv x k < 256 := Nat.mod_lt _ (by decide)
theorem pd_bv_bit (x : Int64) (k i : Nat) : (pd_bv x k).testBit i = (decide (i < 8) && x.toBitVec.getLsbD (8 * k + i)) := by
  unfold pd_bv
  rw [Nat.testBit_mod_two_pow, Nat.testBit_div_two_pow, BitVec.testBit_toNat, Nat.add_comm i]
theorem pd_ushr_bit (x : Int64) {k : Nat} (hk : k < 64) (i : Nat) : ((x.toUInt64 >>> ((nI k).toInt64.toUInt64 &&& Int64.toUInt64 63)).toInt64).toBitVec.getLsbD i = x.toBitVec.getLsbD (k + i) := by
  rw [wb_cu k hk]
  have e : (x.toUInt64 >>> UInt64.ofNat k).toInt64.toBitVec = x.toBitVec >>> k := by
    apply BitVec.eq_of_toNat_eq
    show (x.toUInt64 >>> UInt64.ofNat k).toNat = _
    have h1 : (UInt64.ofNat k).toNat = k := by
      show (BitVec.ofNat 64 k).toNat = k
      rw [BitVec.toNat_ofNat, Nat.mod_eq_of_lt (by omega)]
    rw [UInt64.toNat_shiftRight, h1, Nat.mod_eq_of_lt hk, BitVec.toNat_ushiftRight]
    rfl
  rw [e, BitVec.getLsbD_ushiftRight]
theorem pd_sshr_bit (x : Int64) {k i : Nat} (hk : k < 64) (hi : k + i < 64) : (x >>> ((nI k).toInt64 &&& 63)).toBitVec.getLsbD i = x.toBitVec.getLsbD (k + i) := by
  rw [wb_c k hk, Int64.toBitVec_shiftRight, wb_tb, wb_sm k hk, BitVec.sshiftRight_eq', BitVec.toNat_ofNat, Nat.mod_eq_of_lt (show k < 2 ^ 64 by omega), BitVec.getLsbD_sshiftRight]
  simp only [show ¬ 64 ≤ i by omega, decide_false, Bool.not_false, Bool.true_and, hi, if_true]
theorem pd_nI_bit (v i : Nat) : (nI v).toBitVec.getLsbD i = (decide (i < 32) && v.testBit i) := by
  show (BitVec.ofNat 32 v).getLsbD i = _
  rw [BitVec.getLsbD_ofNat]
theorem pd_255 : ∀ i, i < 64 → (255 : Int64).toBitVec.getLsbD i = decide (i < 8) := by decide +kernel
/-- (int) (x >> 8k & 255L) -/
theorem pd_rd (x : Int64) {k : Nat} (hk : k < 8) : ((x >>> ((nI (8 * k)).toInt64 &&& 63)) &&& 255).toInt32 = nI (pd_bv x k) := by
  apply Int32.toBitVec_inj.mp
  rw [Int64.toBitVec_toInt32]
  apply BitVec.eq_of_getLsbD_eq
  intro i hi
  rw [pd_nI_bit, pd_bv_bit, BitVec.getLsbD_signExtend, if_pos (show i < 64 by omega), Int64.toBitVec_and, BitVec.getLsbD_and, pd_255 i (by omega)]
  by_cases h8 : i < 8
  · rw [pd_sshr_bit x (by omega) (by omega)]
    simp [h8, hi]
  · simp [h8, hi]
/-- (byte) (x >>> 8k) -/
theorem pd_rb (x : Int64) {k : Nat} (hk : k < 8) : ((x.toUInt64 >>> ((nI (8 * k)).toInt64.toUInt64 &&& Int64.toUInt64 63)).toInt64.toInt32).toInt8.toInt32 = sb_b (pd_bv x k) := by
  unfold sb_b
  congr 1
  apply Int8.toBitVec_inj.mp
  rw [Int32.toBitVec_toInt8, Int32.toBitVec_toInt8, Int64.toBitVec_toInt32]
  apply BitVec.eq_of_getLsbD_eq
  intro i hi
  rw [BitVec.getLsbD_signExtend, BitVec.getLsbD_signExtend, BitVec.getLsbD_signExtend, if_pos (show i < 32 by omega), if_pos (show i < 64 by omega), if_pos (show i < 32 by omega), pd_ushr_bit x (by omega), pd_nI_bit, pd_bv_bit]
  simp [hi, show i < 32 by omega]
/-- eight bytes as one long -/
def pd_pk (f : Nat → Nat) : Nat → Nat
  | 0 => 0
  | m + 1 => 2 ^ (8 * m) * f m + pd_pk f m
def pd_lw (b : Nat → Nat) (w : Nat) : Int64 := lN (pd_pk (fun t => b (8 * w + t)) 8)
theorem pd_pk_lt {f : Nat → Nat} (h : ∀ t, f t < 256) : ∀ m, pd_pk f m < 2 ^ (8 * m)
  | 0 => Nat.one_pos
  | m + 1 => by
    have h1 := pd_pk_lt h m
    have h2 := h m
    simp only [pd_pk]
    have e : 2 ^ (8 * (m + 1)) = 2 ^ (8 * m) * 256 := by rw [show 8 * (m + 1) = 8 * m + 8 by omega, Nat.pow_add]
    rw [e]
    have h3 : 2 ^ (8 * m) * f m ≤ 2 ^ (8 * m) * 255 := Nat.mul_le_mul_left _ (by omega)
    omega
theorem pd_pk_bit {f : Nat → Nat} (h : ∀ t, f t < 256) : ∀ m i, i < 8 * m → (pd_pk f m).testBit i = (f (i / 8)).testBit (i % 8)
  | 0, i, hi => absurd hi (by omega)
  | m + 1, i, hi => by
    simp only [pd_pk]
    rw [Nat.testBit_two_pow_mul_add _ (pd_pk_lt h m)]
    by_cases hl : i < 8 * m
    · rw [if_pos hl, pd_pk_bit h m i hl]
    · rw [if_neg hl, show i / 8 = m by omega, show i - 8 * m = i % 8 by omega]
theorem pd_lw_bit {b : Nat → Nat} (h : ∀ t, b t < 256) (w : Nat) {i : Nat} (hi : i < 64) : (pd_lw b w).toBitVec.getLsbD i = (b (8 * w + i / 8)).testBit (i % 8) := by
  unfold pd_lw
  rw [wb_tb, BitVec.getLsbD_ofNat, pd_pk_bit (f := fun t => b (8 * w + t)) (fun t => h _) 8 i (by omega)]
  simp [hi]
theorem pd_lw_bv {b : Nat → Nat} (h : ∀ t, b t < 256) (w : Nat) {k : Nat} (hk : k < 8) : pd_bv (pd_lw b w) k = b (8 * w + k) := by
  apply Nat.eq_of_testBit_eq
  intro i
  rw [pd_bv_bit]
  by_cases hi : i < 8
  · rw [pd_lw_bit h w (show 8 * k + i < 64 by omega), show (8 * k + i) / 8 = k by omega, show (8 * k + i) % 8 = i by omega]
    simp [hi]
  · have h1 := h (8 * w + k)
    have h2 : (b (8 * w + k)).testBit i = false := Nat.testBit_lt_two_pow (Nat.lt_of_lt_of_le h1 (show 2 ^ 8 ≤ 2 ^ i from Nat.pow_le_pow_right (by decide) (by omega)))
    rw [h2]
    simp [hi]
theorem pd_lw_in {b : Nat → Nat} (h : ∀ t, b t < 256) (w : Nat) {k v : Nat} (hk : k < 8) (hv : v < 256) : (pd_lw b w &&& (((255 : Int64) <<< ((nI (8 * k)).toInt64 &&& 63)) ^^^ (-1))) ||| ((nI v).toInt64 <<< ((nI (8 * k)).toInt64 &&& 63)) = pd_lw (va_up b (8 * w + k) v) w := by
  have h' : ∀ t, va_up b (8 * w + k) v t < 256 := fun t => by
    unfold va_up
    by_cases q : t = 8 * w + k
    · rw [if_pos q]
      exact hv
    · rw [if_neg q]
      exact h t
  apply wb_inj
  apply BitVec.eq_of_getLsbD_eq
  intro i hi
  rw [pd_lw_bit h' w hi, Int64.toBitVec_or, Int64.toBitVec_and, Int64.toBitVec_xor, BitVec.getLsbD_or, BitVec.getLsbD_and, BitVec.getLsbD_xor, pd_lw_bit h w hi, wb_c (8 * k) (by omega), Int64.toBitVec_shiftLeft, Int64.toBitVec_shiftLeft, wb_tb, wb_sm (8 * k) (by omega), BitVec.shiftLeft_eq', BitVec.shiftLeft_eq', BitVec.toNat_ofNat, Nat.mod_eq_of_lt (show 8 * k < 2 ^ 64 by omega), BitVec.getLsbD_shiftLeft, BitVec.getLsbD_shiftLeft, nI_l (show v < 2 ^ 31 by omega), wb_tb, BitVec.getLsbD_ofNat]
  have hm1 : ∀ i, i < 64 → (-1 : Int64).toBitVec.getLsbD i = true := by decide +kernel
  rw [hm1 i hi]
  by_cases hlo : i < 8 * k
  · rw [va_up_ne _ _ (show 8 * w + i / 8 ≠ 8 * w + k by omega)]
    simp [hlo, hi]
  · rw [pd_255 (i - 8 * k) (by omega)]
    by_cases hhi : i - 8 * k < 8
    · rw [show i / 8 = k by omega, va_up_self, show i % 8 = i - 8 * k by omega]
      simp [hlo, hi, hhi, show i - 8 * k < 64 by omega]
    · rw [va_up_ne _ _ (show 8 * w + i / 8 ≠ 8 * w + k by omega)]
      have h2 : v.testBit (i - 8 * k) = false := Nat.testBit_lt_two_pow (Nat.lt_of_lt_of_le hv (show 2 ^ 8 ≤ 2 ^ (i - 8 * k) from Nat.pow_le_pow_right (by decide) (by omega)))
      simp [hlo, hi, hhi, h2]
theorem pd_lw_out {b : Nat → Nat} {w w' k v : Nat} (hk : k < 8) (hw : w' ≠ w) : pd_lw (va_up b (8 * w + k) v) w' = pd_lw b w' := by
  unfold pd_lw
  simp only [pd_pk]
  simp only [va_up_ne b v (show 8 * w' + 0 ≠ 8 * w + k by omega), va_up_ne b v (show 8 * w' + 1 ≠ 8 * w + k by omega), va_up_ne b v (show 8 * w' + 2 ≠ 8 * w + k by omega), va_up_ne b v (show 8 * w' + 3 ≠ 8 * w + k by omega), va_up_ne b v (show 8 * w' + 4 ≠ 8 * w + k by omega), va_up_ne b v (show 8 * w' + 5 ≠ 8 * w + k by omega), va_up_ne b v (show 8 * w' + 6 ≠ 8 * w + k by omega), va_up_ne b v (show 8 * w' + 7 ≠ 8 * w + k by omega)]
end
section
/-! PURE, 7: the class's grow and writeTape -/
def pd_gl (n : Nat) (T X : pdS) (c b k : Nat) : Prop :=
  (∀ d, d ≠ 1 → d ≠ 2 → d ≠ 7 → d ≠ 8 + c → X d = T d) ∧ (∀ j, j ≠ 0 → X 7 j = T 7 j) ∧ (∀ j, j < b → X (8 + c) j = T (8 + c) j) ∧ X 7 0 + (k - b) = T 7 0 ∧ pd_ok n X (fun p => pd_ct T p + pd_rc (fun j => X (8 + c) (b + j)) p (k - b)) ∧
  (∀ j, b ≤ j → j < k → X (8 + c) j < n ∧ pd_ct T (X (8 + c) j) = 0) ∧ ∀ i j, b ≤ i → i < k → b ≤ j → j < k → X (8 + c) i = X (8 + c) j → i = j
theorem pd_gl_0 {n : Nat} {T : pdS} (c b : Nat) (h : pd_ok n T (pd_ct T)) : pd_gl n T T c b b := by
  refine ⟨fun _ _ _ _ _ => rfl, fun _ _ => rfl, fun _ _ => rfl, by omega, pd_ok_congr h (fun p _ => ?_), fun j h1 h2 => by omega, fun i j h1 h2 _ _ _ => by omega⟩
  rw [Nat.sub_self]
  rfl
theorem pd_gl_s {n : Nat} {T X : pdS} {c b k : Nat} (h : pd_gl n T X c b k) (hbk : b ≤ k) (hu : 0 < X 7 0) : X 2 (X 7 0 - 1) < n ∧ pd_gl n T (pd_st (pd_take X) (8 + c) k (X 2 (X 7 0 - 1))) c b (k + 1) := by
  obtain ⟨h1, h2, h3, h4, h5, h6, h7⟩ := h
  obtain ⟨hp, hf, ho⟩ := pd_take_ok h5 hu
  have hfr := pd_fr_take X
  have ht0 : pd_take X 7 0 = X 7 0 - 1 := by
    unfold pd_take
    rw [pd_bk _ (show (7 : Nat) ≠ 1 by decide), pd_self]
  generalize hpe : X 2 (X 7 0 - 1) = p at hp hf ho ⊢
  have hf' : pd_ct T p + pd_rc (fun j => X (8 + c) (b + j)) p (k - b) = 0 := hf
  have hne : ∀ j, b ≤ j → j < k → X (8 + c) j ≠ p := fun j hj1 hj2 q => by
    have : 0 < pd_rc (fun j => X (8 + c) (b + j)) p (k - b) := pd_rc_pos (k := j - b) (by show X (8 + c) (b + (j - b)) = p; rw [show b + (j - b) = j by omega]; exact q) (by omega)
    omega
  have er : ∀ j, j ≠ k → pd_st (pd_take X) (8 + c) k p (8 + c) j = X (8 + c) j := fun j hj => by
    rw [pd_ne _ hj, hfr.1 (8 + c) (by omega) (by omega) (by omega)]
  refine ⟨hp, ⟨fun d d1 d2 d7 dc => ?_, fun j hj => ?_, fun j hj => ?_, ?_, ?_, fun j hj1 hj2 => ?_, fun i j hi1 hi2 hj1 hj2 hq => ?_⟩⟩
  · rw [pd_bk _ dc, hfr.1 d d1 d2 d7, h1 d d1 d2 d7 dc]
  · rw [pd_bk _ (show (7 : Nat) ≠ 8 + c by omega), hfr.2 j hj, h2 j hj]
  · rw [er j (by omega), h3 j hj]
  · rw [pd_bk _ (show (7 : Nat) ≠ 8 + c by omega), ht0]
    omega
  · refine pd_ok_congr (pd_ok_st ho (by omega) (by omega) (Or.inl (by omega))) (fun q _ => ?_)
    have e1 : pd_rc (fun j => pd_st (pd_take X) (8 + c) k p (8 + c) (b + j)) q (k + 1 - b) = pd_rc (fun j => X (8 + c) (b + j)) q (k - b) + if p = q then 1 else 0 := by
      rw [show k + 1 - b = (k - b) + 1 by omega]
      have hv : pd_st (pd_take X) (8 + c) k p (8 + c) (b + (k - b)) = p := by
        rw [show b + (k - b) = k by omega, pd_self]
      simp only [pd_rc, hv]
      congr 1
      exact pd_rc_congr (fun j hj => er (b + j) (by omega))
    rw [e1]
    by_cases hqp : q = p
    · subst hqp
      rw [va_up_self, if_pos rfl]
      omega
    · rw [va_up_ne _ _ hqp, if_neg (fun z => hqp z.symm)]
      rfl
  · by_cases hjk : j = k
    · subst hjk
      rw [pd_self]
      exact ⟨hp, by omega⟩
    · rw [er j hjk]
      exact h6 j hj1 (by omega)
  · by_cases hik : i = k <;> by_cases hjk : j = k
    · omega
    · subst hik
      rw [pd_self, er j hjk] at hq
      exact absurd hq.symm (hne j hj1 (by omega))
    · subst hjk
      rw [pd_self, er i hik] at hq
      exact absurd hq (hne i hi1 (by omega))
    · rw [er i hik, er j hjk] at hq
      exact h7 i j hi1 (by omega) hj1 (by omega) hq
/-- one place of a row exchanged -/
theorem pd_ct_put {S : pdS} {c k v : Nat} (hc : c < 32) (hk : k < pd_pf (S 4 c)) (p : Nat) : pd_ct (pd_st S (8 + c) k v) p + (if S (8 + c) k = p then 1 else 0) = pd_ct S p + if v = p then 1 else 0 := by
  have hrc : ∀ m, k < m → pd_rc (va_up (S (8 + c)) k v) p m + (if S (8 + c) k = p then 1 else 0) = pd_rc (S (8 + c)) p m + if v = p then 1 else 0 := by
    intro m
    induction m with
    | zero => intro h; omega
    | succ m ih =>
      intro h
      simp only [pd_rc]
      by_cases hkm : k = m
      · subst hkm
        rw [va_up_self, pd_rc_congr (r := va_up (S (8 + c)) k v) (r' := S (8 + c)) (fun j hj => va_up_ne _ _ (by omega))]
        omega
      · rw [va_up_ne _ _ (fun q => hkm q.symm)]
        have := ih (by omega)
        omega
  have e : pd_ct (pd_st S (8 + c) k v) p = pd_sm (va_up (fun d => pd_rc (S (8 + d)) p (pd_pf (S 4 d))) c (pd_rc (va_up (S (8 + c)) k v) p (pd_pf (S 4 c)))) 32 := by
    refine pd_sm_congr (fun d hd => ?_)
    show pd_rc (pd_st S (8 + c) k v (8 + d)) p (pd_pf (pd_st S (8 + c) k v 4 d)) = _
    rw [pd_bk _ (show (4 : Nat) ≠ 8 + c by omega)]
    by_cases hdc : d = c
    · subst hdc
      rw [va_up_self, pd_own]
    · rw [va_up_ne _ _ hdc, pd_bk _ (show 8 + d ≠ 8 + c by omega)]
  have h1 := pd_sm_up (f := fun d => pd_rc (S (8 + d)) p (pd_pf (S 4 d))) (v := pd_rc (va_up (S (8 + c)) k v) p (pd_pf (S 4 c))) hc
  have h2 := hrc (pd_pf (S 4 c)) hk
  rw [e]
  unfold pd_ct
  try dsimp only at h1
  omega
theorem pd_ct_congr {S T : pdS} (h4 : T 4 = S 4) (hr : ∀ d, d < 32 → ∀ k, k < pd_pf (S 4 d) → T (8 + d) k = S (8 + d) k) (p : Nat) : pd_ct T p = pd_ct S p := by
  refine pd_sm_congr (fun d hd => ?_)
  rw [h4]
  exact pd_rc_congr (fun k hk => hr d hd k hk)
/-- bytes written one behind the other -/
def pd_wt (B r : Nat → Nat) (a : Nat) (tp : Nat → Nat) : Nat → Nat → Nat
  | 0 => B
  | m + 1 => va_up (pd_wt B r a tp m) (64 * r ((a + m) / 64) + (a + m) % 64) (tp m)
theorem pd_wt_out {B r : Nat → Nat} {a : Nat} {tp : Nat → Nat} {x : Nat} : ∀ {m : Nat}, (∀ i, i < m → 64 * r ((a + i) / 64) + (a + i) % 64 ≠ x) → pd_wt B r a tp m x = B x
  | 0, _ => rfl
  | m + 1, h => by
    simp only [pd_wt]
    rw [va_up_ne _ _ (fun q => h m (Nat.lt_succ_self m) q.symm)]
    exact pd_wt_out (fun i hi => h i (Nat.lt_succ_of_lt hi))
theorem pd_wt_in {B r : Nat → Nat} {a i : Nat} {tp : Nat → Nat} : ∀ {m : Nat}, i < m → (∀ j, i < j → j < m → 64 * r ((a + j) / 64) + (a + j) % 64 ≠ 64 * r ((a + i) / 64) + (a + i) % 64) → pd_wt B r a tp m (64 * r ((a + i) / 64) + (a + i) % 64) = tp i
  | 0, h, _ => absurd h (Nat.not_lt_zero i)
  | m + 1, h, hd => by
    simp only [pd_wt]
    by_cases him : i = m
    · subst him
      rw [va_up_self]
    · rw [va_up_ne _ _ (fun q => hd m (by omega) (Nat.lt_succ_self m) q.symm)]
      exact pd_wt_in (by omega) (fun j h1 h2 => hd j h1 (by omega))
theorem pd_wt_lt {B r : Nat → Nat} {a : Nat} {tp : Nat → Nat} (hB : ∀ x, B x < 256) (ht : ∀ i, tp i < 256) : ∀ m x, pd_wt B r a tp m x < 256
  | 0, x => hB x
  | m + 1, x => by
    simp only [pd_wt]
    unfold va_up
    by_cases h : x = 64 * r ((a + m) / 64) + (a + m) % 64
    · rw [if_pos h]
      exact ht m
    · rw [if_neg h]
      exact pd_wt_lt hB ht m x
end
section
/-! PURE, 8: the class's append, put together -/
/-- behind grow -/
def pd_gw (n : Nat) (S S' : pdS) (c add : Nat) : Prop :=
  S' 4 = va_up (S 4) c (S 4 c + add) ∧ S' 5 = va_up (S 5) c 1 ∧ S' 6 = S 6 ∧ S' 3 = S 3 ∧ ((pd_cp S c add ∧ S' 7 1 = S 7 1 + 1) ∨ (¬ pd_cp S c add ∧ S' 7 1 = S 7 1)) ∧ S' 7 2 = S 7 2 ∧
  (∀ d k, d < 32 → d ≠ c → k < pd_pf (S 4 d) → S' (8 + d) k = S (8 + d) k) ∧ (∀ k, k < pd_pf (S 4 c) → ¬ (pd_cp S c add ∧ k = S 4 c / 64) → S' (8 + c) k = S (8 + c) k) ∧
  (∀ k, pd_nw S c add k → S' (8 + c) k < n ∧ pd_ct S (S' (8 + c) k) = 0) ∧ (∀ k j, pd_nw S c add k → pd_nw S c add j → S' (8 + c) k = S' (8 + c) j → k = j) ∧
  (∀ d i, d < 32 → i < S 4 d → pd_by S' d i = pd_by S d i) ∧ (∀ j, S' 0 j < 256) ∧ pd_ok n S' (pd_ct S')
/-- what holds behind the copying of the last page, or without it -/
def pd_xc (n : Nat) (S T : pdS) (c add : Nat) : Prop :=
  T 3 = S 3 ∧ T 4 = S 4 ∧ T 5 = S 5 ∧ T 6 = S 6 ∧ T 7 2 = S 7 2 ∧ (∀ d, d ≠ c → d < 32 → T (8 + d) = S (8 + d)) ∧ (∀ j, T 0 j < 256) ∧ pd_ok n T (pd_ct T) ∧
  ((¬ pd_cp S c add ∧ T 0 = S 0 ∧ T 7 1 = S 7 1 ∧ T (8 + c) = S (8 + c)) ∨
   (pd_cp S c add ∧ T 7 1 = S 7 1 + 1 ∧ ∃ nw, nw < n ∧ pd_ct S nw = 0 ∧ T (8 + c) = va_up (S (8 + c)) (S 4 c / 64) nw ∧ T 0 = va_cpy (S 0) (S 0) (64 * S (8 + c) (S 4 c / 64)) (64 * nw) 64))
theorem pd_xc_no {n : Nat} {S : pdS} {c add : Nat} (h : ¬ pd_cp S c add) (hv : pd_v n S) (ho : pd_ok n S (pd_ct S)) : pd_xc n S S c add := ⟨rfl, rfl, rfl, rfl, rfl, fun _ _ _ => rfl, hv.2.2.2.2.2, ho, Or.inl ⟨h, rfl, rfl, rfl⟩⟩
theorem pd_xc_ct {n : Nat} {S T : pdS} {c add : Nat} (hc : c < 32) (h : pd_xc n S T c add) {q : Nat} (hq : pd_ct T q = 0) : pd_ct S q = 0 ∧ ∀ k, pd_cp S c add → k = S 4 c / 64 → T (8 + c) k ≠ q := by
  obtain ⟨e3, e4, e5, e6, e72, eo, e0, ho, h1 | h1⟩ := h
  · obtain ⟨hn, z0, z7, zr⟩ := h1
    refine ⟨?_, fun k hcp _ => absurd hcp hn⟩
    rw [← hq]
    refine (pd_ct_congr e4 (fun d hd k hk => ?_) q).symm
    by_cases hdc : d = c
    · subst hdc
      rw [zr]
    · rw [eo d hdc hd]
  · obtain ⟨hcp, z7, nw, hnw, hct, zr, z0⟩ := h1
    have hl : S 4 c / 64 < pd_pf (S 4 c) := by
      have := hcp.2.1
      unfold pd_pf
      omega
    have e : pd_ct T q = pd_ct (pd_st S (8 + c) (S 4 c / 64) nw) q := by
      refine pd_ct_congr (by rw [e4, pd_bk _ (show (4 : Nat) ≠ 8 + c by omega)]) (fun d hd k hk => ?_) q
      by_cases hdc : d = c
      · subst hdc
        rw [zr, pd_own]
      · rw [eo d hdc hd, pd_bk _ (show 8 + d ≠ 8 + c by omega)]
    have hput := pd_ct_put (v := nw) hc hl q
    rw [← e, hq] at hput
    by_cases hold : S (8 + c) (S 4 c / 64) = q
    · have := hcp.2.2
      rw [hold] at this
      rw [if_pos hold] at hput
      omega
    · rw [if_neg hold] at hput
      by_cases hnq : nw = q
      · rw [if_pos hnq] at hput
        omega
      · refine ⟨by omega, fun k _ hk q2 => hnq ?_⟩
        subst hk
        rw [zr, va_up_self] at q2
        exact q2
theorem pd_gw_of {n : Nat} {S T X S' : pdS} {c add : Nat} (hc : c < 32) (hv : pd_v n S) (h : pd_xc n S T c add) (hX : pd_gl n T X c (pd_pf (S 4 c)) (pd_pf (S 4 c + add))) (e : S' = pd_st (pd_st X 4 c (S 4 c + add)) 5 c 1) : pd_gw n S S' c add := by
  have hxc := fun (q : Nat) (hq : pd_ct T q = 0) => pd_xc_ct hc h hq
  obtain ⟨e3, e4, e5, e6, e72, eo, e0, ho, hcase⟩ := h
  obtain ⟨x1, x2, x3, x4, x5, x6, x7⟩ := hX
  have er : ∀ d, S' (8 + d) = X (8 + d) := fun d => by rw [e, pd_bk _ (show 8 + d ≠ 5 by omega), pd_bk _ (show 8 + d ≠ 4 by omega)]
  have es4 : S' 4 = va_up (S 4) c (S 4 c + add) := by rw [e, pd_bk _ (by decide), pd_own, x1 4 (by decide) (by decide) (by decide) (by omega), e4]
  have es0 : S' 0 = T 0 := by rw [e, pd_bk _ (by decide), pd_bk _ (by decide), x1 0 (by decide) (by decide) (by decide) (by omega)]
  have hmono := pd_pf_mono (show S 4 c ≤ S 4 c + add by omega)
  have hoth : ∀ d, d < 32 → d ≠ c → S' (8 + d) = S (8 + d) := fun d hd hdc => by rw [er d, x1 (8 + d) (by omega) (by omega) (by omega) (by omega), eo d hdc hd]
  have hlast : pd_cp S c add → S 4 c / 64 < pd_pf (S 4 c) := fun q => by
    have := q.2.1
    unfold pd_pf
    omega
  have hnwlt : ∀ k, pd_nw S c add k → k < pd_pf (S 4 c) → pd_cp S c add ∧ k = S 4 c / 64 := fun k hk hl => by
    rcases hk.2 with q | q
    · omega
    · exact q
  have hold : ∀ k, k < pd_pf (S 4 c) → ¬ (pd_cp S c add ∧ k = S 4 c / 64) → S' (8 + c) k = S (8 + c) k := fun k hk hn => by
    rw [er c, x3 k hk]
    rcases hcase with ⟨q1, q2, q3, q4⟩ | ⟨q1, q2, nw, q3, q4, q5, q6⟩
    · rw [q4]
    · rw [q5, va_up_ne _ _ (fun z => hn ⟨q1, z⟩)]
  have hnew : ∀ k, pd_nw S c add k → S' (8 + c) k < n ∧ pd_ct S (S' (8 + c) k) = 0 := fun k hk => by
    rw [er c]
    by_cases hl : k < pd_pf (S 4 c)
    · obtain ⟨w1, w2⟩ := hnwlt k hk hl
      rw [x3 k hl]
      rcases hcase with ⟨q1, -⟩ | ⟨q1, q2, nw, q3, q4, q5, q6⟩
      · exact absurd w1 q1
      · rw [q5, w2, va_up_self]
        exact ⟨q3, q4⟩
    · obtain ⟨w1, w2⟩ := x6 k (by omega) hk.1
      exact ⟨w1, (hxc _ w2).1⟩
  refine ⟨es4, ?_, ?_, ?_, ?_, ?_, fun d k hd hdc _ => by rw [hoth d hd hdc], hold, hnew, fun k j hk hj hq => ?_, fun d i hd hi => ?_, by rw [es0]; exact e0, ?_⟩
  · rw [e, pd_own, pd_bk _ (by decide), x1 5 (by decide) (by decide) (by decide) (by omega), e5]
  · rw [e, pd_bk _ (by decide), pd_bk _ (by decide), x1 6 (by decide) (by decide) (by decide) (by omega), e6]
  · rw [e, pd_bk _ (by decide), pd_bk _ (by decide), x1 3 (by decide) (by decide) (by decide) (by omega), e3]
  · have e71 : S' 7 1 = T 7 1 := by rw [e, pd_bk _ (by decide), pd_bk _ (by decide), x2 1 (by decide)]
    rw [e71]
    rcases hcase with ⟨q1, q2, q3, q4⟩ | ⟨q1, q2, -⟩
    · exact Or.inr ⟨q1, q3⟩
    · exact Or.inl ⟨q1, q2⟩
  · rw [e, pd_bk _ (by decide), pd_bk _ (by decide), x2 2 (by decide), e72]
  · by_cases hkl : k < pd_pf (S 4 c) <;> by_cases hjl : j < pd_pf (S 4 c)
    · obtain ⟨-, w2⟩ := hnwlt k hk hkl
      obtain ⟨-, z2⟩ := hnwlt j hj hjl
      omega
    · obtain ⟨w1, w2⟩ := hnwlt k hk hkl
      rw [er c, x3 k hkl] at hq
      exact absurd hq ((hxc _ (x6 j (by omega) hj.1).2).2 k w1 w2)
    · obtain ⟨w1, w2⟩ := hnwlt j hj hjl
      rw [er c, x3 j hjl] at hq
      exact absurd hq.symm ((hxc _ (x6 k (by omega) hk.1).2).2 j w1 w2)
    · rw [er c] at hq
      exact x7 k j (by omega) hk.1 (by omega) hj.1 hq
  · have hkd : i / 64 < pd_pf (S 4 d) := by
      unfold pd_pf
      omega
    have hp := hv.2.1 d (i / 64) hd hkd
    rcases hcase with ⟨q1, q2, q3, q4⟩ | ⟨q1, q2, nw, q3, q4, q5, q6⟩
    · refine pd_by_congr (es0.trans q2) ?_
      by_cases hdc : d = c
      · subst hdc
        exact hold _ hkd (fun z => q1 z.1)
      · rw [hoth d hd hdc]
    · unfold pd_by
      rw [es0, q6]
      by_cases hdl : d = c ∧ i / 64 = S 4 c / 64
      · obtain ⟨rfl, h2⟩ := hdl
        have hr : S' (8 + d) (i / 64) = nw := by rw [h2, er d, x3 _ (hlast q1), q5, va_up_self]
        rw [hr, pk_cpy_in (by omega) (by omega), show 64 * nw + i % 64 - 64 * nw = i % 64 by omega, h2]
      · have hr : S' (8 + d) (i / 64) = S (8 + d) (i / 64) := by
          by_cases hdc : d = c
          · subst hdc
            exact hold _ hkd (fun z => hdl ⟨rfl, z.2⟩)
          · rw [hoth d hd hdc]
        have hne : S (8 + d) (i / 64) ≠ nw := pd_ct_live q4 hd hkd
        rw [hr, pk_cpy_out (by omega)]
  · have hct : ∀ p, p < n → pd_ct T p + pd_rc (fun j => X (8 + c) (pd_pf (S 4 c) + j)) p (pd_pf (S 4 c + add) - pd_pf (S 4 c)) = pd_ct S' p := fun p _ => by
      have e1 : pd_ct S' p = pd_sm (va_up (fun d => pd_rc (T (8 + d)) p (pd_pf (T 4 d))) c (pd_rc (X (8 + c)) p (pd_pf (S 4 c + add)))) 32 := by
        refine pd_sm_congr (fun d hd => ?_)
        show pd_rc (S' (8 + d)) p (pd_pf (S' 4 d)) = _
        rw [es4, er d]
        by_cases hdc : d = c
        · subst hdc
          rw [va_up_self, va_up_self]
        · rw [va_up_ne _ _ hdc, va_up_ne _ _ hdc, x1 (8 + d) (by omega) (by omega) (by omega) (by omega), e4]
      have h1 := pd_sm_up (f := fun d => pd_rc (T (8 + d)) p (pd_pf (T 4 d))) (v := pd_rc (X (8 + c)) p (pd_pf (S 4 c + add))) hc
      have h2 := pd_rc_add (X (8 + c)) p (pd_pf (S 4 c)) (pd_pf (S 4 c + add) - pd_pf (S 4 c))
      rw [show pd_pf (S 4 c) + (pd_pf (S 4 c + add) - pd_pf (S 4 c)) = pd_pf (S 4 c + add) by omega] at h2
      have h3 : pd_rc (X (8 + c)) p (pd_pf (S 4 c)) = pd_rc (T (8 + c)) p (pd_pf (T 4 c)) := by
        rw [e4]
        exact pd_rc_congr (fun k hk => x3 k hk)
      rw [e1]
      unfold pd_ct
      try dsimp only at h1
      omega
    rw [e]
    refine pd_ok_st (pd_ok_st ?_ (by decide) (by decide) (Or.inl (by decide))) (by decide) (by decide) (Or.inl (by decide))
    rw [← e]
    exact pd_ok_congr x5 hct
/-- and behind the writing of the tape -/
theorem pd_ap_of {n : Nat} {S X S' : pdS} {c add : Nat} {tp : Nat → Nat} (hc : c < 32) (hv : pd_v n S) (h : pd_gw n S X c add) (e : S' = va_up X 0 (pd_wt (X 0) (X (8 + c)) (S 4 c) tp add)) (htp : ∀ i, tp i < 256) (h72 : X 7 2 = 0) : pd_ap n S S' c add tp ∧ pd_ok n S' (pd_ct S') := by
  obtain ⟨g4, g5, g6, g3, g71, g72, go, gold, gnew, gdis, gby, g0, gok⟩ := h
  have eb : ∀ b, b ≠ 0 → S' b = X b := fun b hb => by rw [e, va_up_ne _ _ hb]
  have e0 : S' 0 = pd_wt (X 0) (X (8 + c)) (S 4 c) tp add := by rw [e, va_up_self]
  have er : ∀ d, S' (8 + d) = X (8 + d) := fun d => eb _ (by omega)
  -- places of row c behind the old end
  have hnwk : ∀ i, i < add → (S 4 c % 64 = 0 ∨ (S 4 c + i) / 64 ≠ S 4 c / 64) → pd_nw S c add ((S 4 c + i) / 64) := fun i hi hz => by
    refine ⟨by unfold pd_pf; omega, Or.inl (by unfold pd_pf; omega)⟩
  -- a page that is written is in no other row, and at one place of this row
  have hown : ∀ i, i < add → ∀ d k, d < 32 → k < pd_pf (S 4 d) → X (8 + d) k = X (8 + c) ((S 4 c + i) / 64) → d = c ∧ k = (S 4 c + i) / 64 := by
    intro i hi d k hd hk hq
    by_cases hnw : pd_nw S c add ((S 4 c + i) / 64)
    · have hz := (gnew _ hnw).2
      by_cases hdc : d = c
      · subst hdc
        by_cases hnk : pd_nw S d add k
        · exact ⟨rfl, gdis k _ hnk hnw hq⟩
        · rw [gold k hk (fun z => hnk ⟨Nat.lt_of_lt_of_le hk (pd_pf_mono (by omega)), Or.inr z⟩)] at hq
          exact absurd hq (pd_ct_live hz hd hk)
      · rw [go d k hd hdc hk] at hq
        exact absurd hq (pd_ct_live hz hd hk)
    · have hm : S 4 c % 64 ≠ 0 := fun z => hnw (hnwk i hi (Or.inl z))
      have hl : (S 4 c + i) / 64 = S 4 c / 64 := by
        by_cases z : (S 4 c + i) / 64 = S 4 c / 64
        · exact z
        · exact absurd (hnwk i hi (Or.inr z)) hnw
      have hll : S 4 c / 64 < pd_pf (S 4 c) := by
        unfold pd_pf
        omega
      have hncp : ¬ pd_cp S c add := fun z => hnw ⟨by unfold pd_pf; omega, Or.inr ⟨z, hl⟩⟩
      rw [hl, gold _ hll (fun z => hncp z.1)] at hq
      have hone : ¬ 1 < pd_ct S (S (8 + c) (S 4 c / 64)) := fun z => hncp ⟨by omega, hm, z⟩
      by_cases hdc : d = c
      · subst hdc
        by_cases hnk : pd_nw S d add k
        · exact absurd hq.symm (pd_ct_live (gnew k hnk).2 hd hll)
        · rw [gold k hk (fun z => hncp z.1)] at hq
          exact ⟨rfl, by rw [hl]; exact hv.2.2.1 d d k _ hd hd hk hll hq⟩
      · rw [go d k hd hdc hk] at hq
        -- two live references
        have h1 : 0 < pd_rc (S (8 + d)) (S (8 + c) (S 4 c / 64)) (pd_pf (S 4 d)) := pd_rc_pos hq hk
        have h2 : 0 < pd_rc (S (8 + c)) (S (8 + c) (S 4 c / 64)) (pd_pf (S 4 c)) := pd_rc_pos rfl hll
        have h3 : pd_rc (S (8 + d)) (S (8 + c) (S 4 c / 64)) (pd_pf (S 4 d)) + pd_rc (S (8 + c)) (S (8 + c) (S 4 c / 64)) (pd_pf (S 4 c)) ≤ pd_ct S (S (8 + c) (S 4 c / 64)) := by
          have u1 := pd_sm_up (f := fun d => pd_rc (S (8 + d)) (S (8 + c) (S 4 c / 64)) (pd_pf (S 4 d))) (v := 0) hd
          have u2 := pd_sm_le (f := va_up (fun d => pd_rc (S (8 + d)) (S (8 + c) (S 4 c / 64)) (pd_pf (S 4 d))) d 0) hc
          rw [va_up_ne _ _ (fun z => hdc z.symm)] at u2
          unfold pd_ct
          try dsimp only at u1 u2
          omega
        omega
  have hout : ∀ d i, d < 32 → i < S 4 d → pd_by S' d i = pd_by X d i := fun d i hd hi => by
    unfold pd_by
    rw [er d, e0]
    refine pd_wt_out (fun t ht q => ?_)
    have hk : i / 64 < pd_pf (S 4 d) := by
      unfold pd_pf
      omega
    have h1 : X (8 + d) (i / 64) = X (8 + c) ((S 4 c + t) / 64) := by omega
    obtain ⟨rfl, h3⟩ := hown t ht d _ hd hk h1
    omega
  have hin : ∀ i, i < add → pd_by S' c (S 4 c + i) = tp i := fun i hi => by
    unfold pd_by
    rw [er c, e0]
    refine pd_wt_in hi (fun j h1 h2 q => ?_)
    have hjq : X (8 + c) ((S 4 c + j) / 64) = X (8 + c) ((S 4 c + i) / 64) := by omega
    have hkk : (S 4 c + j) / 64 = (S 4 c + i) / 64 := by
      by_cases hj : (S 4 c + j) / 64 < pd_pf (S 4 c)
      · exact (hown i hi c _ hc hj hjq).2
      · by_cases hi2 : (S 4 c + i) / 64 < pd_pf (S 4 c)
        · exact ((hown j h2 c _ hc hi2 hjq.symm).2).symm
        · exact gdis _ _ ⟨by unfold pd_pf; omega, Or.inl (by omega)⟩ ⟨by unfold pd_pf; omega, Or.inl (by omega)⟩ hjq
    omega
  refine ⟨⟨by rw [eb 4 (by decide)]; exact g4, by rw [eb 5 (by decide)]; exact g5, by rw [eb 6 (by decide)]; exact g6, by rw [eb 7 (by decide)]; exact g71, by rw [eb 7 (by decide)]; exact h72, fun d k hd hdc hk => by rw [er d]; exact go d k hd hdc hk, fun k hk hn => by rw [er c]; exact gold k hk hn, fun k hk => by rw [er c]; exact gnew k hk, fun k j hk hj => by rw [er c]; exact gdis k j hk hj, fun d i hd hi => (hout d i hd hi).trans (gby d i hd hi), hin, by rw [eb 3 (by decide), g3]; exact hv.2.2.2.2.1, by rw [e0]; exact pd_wt_lt g0 htp add⟩, ?_⟩
  refine pd_ok_congr (pd_ok_eqv gok (eb 1 (by decide)) (eb 2 (by decide)) (by rw [eb 7 (by decide)])) (fun p _ => ?_)
  exact (pd_ct_congr (S := X) (T := S') (eb 4 (by decide)) (fun d _ k _ => by rw [er d]) p).symm
end
section
/-! PURE, 9: the calls, said of both sides -/
def pd_sa (S S' : pdS) : Prop := S' 0 = S 0 ∧ S' 3 = S 3 ∧ S' 4 = S 4 ∧ S' 5 = S 5 ∧ S' 6 = S 6 ∧ S' 7 1 = S 7 1 ∧ S' 7 2 = S 7 2 ∧ ∀ d, d < 32 → S' (8 + d) = S (8 + d)
theorem pd_sa_rf (S : pdS) : pd_sa S S := ⟨rfl, rfl, rfl, rfl, rfl, rfl, rfl, fun _ _ => rfl⟩
theorem pd_sa_tr {S T U : pdS} (h : pd_sa S T) (g : pd_sa T U) : pd_sa S U := by
  obtain ⟨a0, a3, a4, a5, a6, a7, a8, ar⟩ := h
  obtain ⟨b0, b3, b4, b5, b6, b7, b8, br⟩ := g
  exact ⟨b0.trans a0, b3.trans a3, b4.trans a4, b5.trans a5, b6.trans a6, b7.trans a7, b8.trans a8, fun d hd => (br d hd).trans (ar d hd)⟩
theorem pd_sa_fr {S T : pdS} (h : pd_fr S T) : pd_sa S T := ⟨h.1 0 (by decide) (by decide) (by decide), h.1 3 (by decide) (by decide) (by decide), h.1 4 (by decide) (by decide) (by decide), h.1 5 (by decide) (by decide) (by decide), h.1 6 (by decide) (by decide) (by decide), h.2 1 (by decide), h.2 2 (by decide), fun d _ => h.1 (8 + d) (by omega) (by omega) (by omega)⟩
/-- a store that nobody sees -/
theorem pd_sa_st {S : pdS} {b j v : Nat} (h : b = 1 ∨ b = 2 ∨ (b = 7 ∧ j ≠ 1 ∧ j ≠ 2)) : pd_sa S (pd_st S b j v) := by
  have hb : ∀ a, a ≠ 1 → a ≠ 2 → a ≠ 7 → pd_st S b j v a = S a := fun a h1 h2 h7 => pd_bk _ (by omega)
  refine ⟨hb 0 (by decide) (by decide) (by decide), hb 3 (by decide) (by decide) (by decide), hb 4 (by decide) (by decide) (by decide), hb 5 (by decide) (by decide) (by decide), hb 6 (by decide) (by decide) (by decide), ?_, ?_, fun d _ => hb (8 + d) (by omega) (by omega) (by omega)⟩
  · rw [pd_at, if_neg (by omega)]
  · rw [pd_at, if_neg (by omega)]
theorem pd_sa_by {S S' : pdS} (h : pd_sa S S') {c : Nat} (hc : c < 32) (i : Nat) : pd_by S' c i = pd_by S c i := pd_by_congr h.1 (by rw [h.2.2.2.2.2.2.2 c hc])
theorem pd_sa_v {S S' : pdS} {N : Nat} (h : pd_sa S S') (hv : pd_v N S) : pd_v N S' := by
  obtain ⟨e0, e3, e4, e5, e6, e71, e72, er⟩ := h
  obtain ⟨v1, v2, v3, v4, v5, v6⟩ := hv
  refine ⟨fun c hc => by rw [e4, e5]; exact v1 c hc, fun c k hc hk => ?_, fun c d k j hc hd hk hj => ?_, by rw [e72]; exact v4, by rw [e3]; exact v5, by rw [e0]; exact v6⟩
  · rw [e4] at hk
    rw [er c hc]
    exact v2 c k hc hk
  · rw [e4] at hk hj
    rw [er c hc, er d hd]
    exact v3 c d k j hc hd hk hj
theorem pd_sa_ct {S S' : pdS} (h : pd_sa S S') (p : Nat) : pd_ct S' p = pd_ct S p := pd_ct_congr h.2.2.1 (fun d hd k _ => by rw [h.2.2.2.2.2.2.2 d hd]) p
theorem pd_sa_eq {S S' Q : pdS} (h : pd_sa S S') (e : pd_eq S Q) : pd_eq S' Q := by
  have hby := fun (c i : Nat) (hc : c < 32) => pd_sa_by h hc i
  obtain ⟨e0, e3, e4, e5, e6, e71, e72, er⟩ := h
  obtain ⟨h1, h2, h3, h4, h5, h6, h7⟩ := e
  refine ⟨by rw [e4, e5]; exact h1, by rw [e6]; exact h2, by rw [e71]; exact h3, by rw [e72]; exact h4, by rw [e72, e3]; exact h5, fun c d k hc hd hk hk2 => ?_, fun c i hc hi => ?_⟩
  · rw [e4] at hk hk2
    rw [er c hc, er d hd]
    exact h6 c d k hc hd hk hk2
  · rw [e4] at hi
    rw [hby c i hc]
    exact h7 c i hc hi
theorem pd_sa_eq2 {S Q Q' : pdS} (h : pd_sa Q Q') (e : pd_eq S Q) : pd_eq S Q' := pd_eq_symm (pd_sa_eq h (pd_eq_symm e))
theorem pd_v_6 {S : pdS} {N i v : Nat} (hv : pd_v N S) : pd_v N (pd_st S 6 i v) := by
  have hb : ∀ a, a ≠ 6 → pd_st S 6 i v a = S a := fun a h => pd_bk _ h
  obtain ⟨v1, v2, v3, v4, v5, v6⟩ := hv
  refine ⟨fun c hc => by rw [hb 4 (by decide), hb 5 (by decide)]; exact v1 c hc, fun c k hc hk => ?_, fun c d k j hc hd hk hj => ?_, by rw [hb 7 (by decide)]; exact v4, by rw [hb 3 (by decide)]; exact v5, by rw [hb 0 (by decide)]; exact v6⟩
  · rw [hb 4 (by decide)] at hk
    rw [hb (8 + c) (by omega)]
    exact v2 c k hc hk
  · rw [hb 4 (by decide)] at hk hj
    rw [hb (8 + c) (by omega), hb (8 + d) (by omega)]
    exact v3 c d k j hc hd hk hj
theorem pd_eq_6 {S Q : pdS} {i v : Nat} (e : pd_eq S Q) : pd_eq (pd_st S 6 i v) (pd_st Q 6 i v) := by
  have hb : ∀ a, a ≠ 6 → pd_st S 6 i v a = S a := fun a h => pd_bk _ h
  have gb : ∀ a, a ≠ 6 → pd_st Q 6 i v a = Q a := fun a h => pd_bk _ h
  obtain ⟨h1, h2, h3, h4, h5, h6, h7⟩ := e
  refine ⟨by rw [hb 4 (by decide), hb 5 (by decide), gb 4 (by decide), gb 5 (by decide)]; exact h1, fun j hj => ?_, by rw [hb 7 (by decide), gb 7 (by decide)]; exact h3, by rw [hb 7 (by decide), gb 7 (by decide)]; exact h4, by rw [hb 7 (by decide), hb 3 (by decide), gb 3 (by decide)]; exact h5, fun c d k hc hd hk hk2 => ?_, fun c i2 hc hi => ?_⟩
  · rw [pd_own, pd_own]
    by_cases hji : j = i
    · subst hji
      rw [va_up_self, va_up_self]
    · rw [va_up_ne _ _ hji, va_up_ne _ _ hji]
      exact h2 j hj
  · rw [hb 4 (by decide)] at hk hk2
    rw [hb (8 + c) (by omega), hb (8 + d) (by omega), gb (8 + c) (by omega), gb (8 + d) (by omega)]
    exact h6 c d k hc hd hk hk2
  · rw [hb 4 (by decide)] at hi
    rw [pd_by_congr (hb 0 (by decide)) (by rw [hb (8 + c) (by omega)]), pd_by_congr (gb 0 (by decide)) (by rw [gb (8 + c) (by omega)])]
    exact h7 c i2 hc hi
/-- cut -/
def pd_cut (S S' : pdS) (f s : Nat) : Prop := ∃ T, pd_sh S T (2 * f) s ∧ pd_sa (pd_st T 6 f (if s < S 6 f then s else S 6 f)) S'
/-- remove -/
def pd_rem (S S' : pdS) (f : Nat) : Prop := ∃ T, pd_sh S T (2 * f) 0 ∧ pd_sa (pd_st (pd_st T 5 (2 * f) 0) 6 f 0) S'
/-- twin -/
def pd_twi (S S' : pdS) (a b : Nat) : Prop := ∃ T, pd_be S T (2 * b) (2 * a) ∧ pd_sa (pd_st T 6 b 0) S'
/-- settle -/
def pd_set (S S' : pdS) (f : Nat) : Prop := ∃ T, pd_be S T (2 * f + 1) (2 * f) ∧ pd_sa (pd_st T 6 f (S 4 (2 * f))) S'
/-- a crash of a file -/
def pd_fal (S S' : pdS) (f keep : Nat) : Prop := ∃ T, ((keep = 0 ∧ pd_be S T (2 * f) (2 * f + 1)) ∨ (0 < keep ∧ S 6 f + keep - 1 < S 4 (2 * f) ∧ pd_sh S T (2 * f) (S 6 f + keep - 1)) ∨ (0 < keep ∧ S 4 (2 * f) ≤ S 6 f + keep - 1 ∧ pd_sa S T)) ∧ pd_set T S' f
/-- how many files are there -/
def pd_th (S : pdS) : Nat := pd_sm (fun i => S 5 (2 * i)) 16
theorem pd_th_eq {S Q : pdS} (e : pd_eq S Q) : pd_th S = pd_th Q := pd_sm_congr (fun i hi => (e.1 (2 * i) (by omega)).2)
/-- the pages that sync counts -/
def pd_un (S : pdS) (f : Nat) : Nat := pd_sm (fun k => if k < pd_pf (S 4 (2 * f + 1)) ∧ S (8 + (2 * f + 1)) k = S (8 + 2 * f) k then 0 else 1) (pd_pf (S 4 (2 * f)))
theorem pd_un_eq {S Q : pdS} (e : pd_eq S Q) {f : Nat} (hf : f < 16) : pd_un S f = pd_un Q f := by
  obtain ⟨h1, -, -, -, -, h6, -⟩ := e
  unfold pd_un
  rw [← (h1 (2 * f) (by omega)).1, ← (h1 (2 * f + 1) (by omega)).1]
  refine pd_sm_congr (fun k hk => ?_)
  by_cases hl : k < pd_pf (S 4 (2 * f + 1))
  · have := h6 (2 * f + 1) (2 * f) k (by omega) (by omega) hl hk
    by_cases hq : S (8 + (2 * f + 1)) k = S (8 + 2 * f) k
    · rw [if_pos ⟨hl, hq⟩, if_pos ⟨hl, this.mp hq⟩]
    · rw [if_neg (fun z => hq z.2), if_neg (fun z => hq (this.mpr z.2))]
  · rw [if_neg (fun z => hl z.1), if_neg (fun z => hl z.1)]
/-- the pages of a row that are in another, too -/
def pd_shd (S : pdS) (c : Nat) : Nat := pd_sm (fun k => if 1 < pd_ct S (S (8 + c) k) then 1 else 0) (pd_pf (S 4 c))
theorem pd_shd_eq {S Q : pdS} (e : pd_eq S Q) (hS : pd_po S) (hQ : pd_po Q) {c : Nat} (hc : c < 32) : pd_shd S c = pd_shd Q c := by
  unfold pd_shd
  rw [← (e.1 c hc).1]
  refine pd_sm_congr (fun k hk => ?_)
  rw [pd_eq_ct e hS hQ hc hk]
theorem pd_cut_eq {S S' Q Q' : pdS} {f s : Nat} (h : pd_cut S S' f s) (g : pd_cut Q Q' f s) (hf : f < 16) (hs : s ≤ S 4 (2 * f)) (e : pd_eq S Q) : pd_eq S' Q' := by
  obtain ⟨T, h1, h2⟩ := h
  obtain ⟨U, g1, g2⟩ := g
  refine pd_sa_eq h2 (pd_sa_eq2 g2 ?_)
  rw [← e.2.1 f hf]
  exact pd_eq_6 (pd_sh_eq h1 g1 hs (by omega) e)
theorem pd_eq_5 {S Q : pdS} {c v : Nat} (e : pd_eq S Q) : pd_eq (pd_st S 5 c v) (pd_st Q 5 c v) := by
  have hb : ∀ a, a ≠ 5 → pd_st S 5 c v a = S a := fun a h => pd_bk _ h
  have gb : ∀ a, a ≠ 5 → pd_st Q 5 c v a = Q a := fun a h => pd_bk _ h
  obtain ⟨h1, h2, h3, h4, h5, h6, h7⟩ := e
  refine ⟨fun d hd => ⟨by rw [hb 4 (by decide), gb 4 (by decide)]; exact (h1 d hd).1, ?_⟩, by rw [hb 6 (by decide), gb 6 (by decide)]; exact h2, by rw [hb 7 (by decide), gb 7 (by decide)]; exact h3, by rw [hb 7 (by decide), gb 7 (by decide)]; exact h4, by rw [hb 7 (by decide), hb 3 (by decide), gb 3 (by decide)]; exact h5, fun a d k ha hd hk hk2 => ?_, fun d i hd hi => ?_⟩
  · rw [pd_own, pd_own]
    by_cases hdc : d = c
    · subst hdc
      rw [va_up_self, va_up_self]
    · rw [va_up_ne _ _ hdc, va_up_ne _ _ hdc]
      exact (h1 d hd).2
  · rw [hb 4 (by decide)] at hk hk2
    rw [hb (8 + a) (by omega), hb (8 + d) (by omega), gb (8 + a) (by omega), gb (8 + d) (by omega)]
    exact h6 a d k ha hd hk hk2
  · rw [hb 4 (by decide)] at hi
    rw [pd_by_congr (hb 0 (by decide)) (by rw [hb (8 + d) (by omega)]), pd_by_congr (gb 0 (by decide)) (by rw [gb (8 + d) (by omega)])]
    exact h7 d i hd hi
theorem pd_rem_eq {S S' Q Q' : pdS} {f : Nat} (h : pd_rem S S' f) (g : pd_rem Q Q' f) (hf : f < 16) (e : pd_eq S Q) : pd_eq S' Q' := by
  obtain ⟨T, h1, h2⟩ := h
  obtain ⟨U, g1, g2⟩ := g
  exact pd_sa_eq h2 (pd_sa_eq2 g2 (pd_eq_6 (pd_eq_5 (pd_sh_eq h1 g1 (Nat.zero_le _) (by omega) e))))
theorem pd_twi_eq {S S' Q Q' : pdS} {a b : Nat} (h : pd_twi S S' a b) (g : pd_twi Q Q' a b) (ha : a < 16) (e : pd_eq S Q) : pd_eq S' Q' := by
  obtain ⟨T, h1, h2⟩ := h
  obtain ⟨U, g1, g2⟩ := g
  exact pd_sa_eq h2 (pd_sa_eq2 g2 (pd_eq_6 (pd_be_eq h1 g1 (by omega) e)))
theorem pd_set_eq {S S' Q Q' : pdS} {f : Nat} (h : pd_set S S' f) (g : pd_set Q Q' f) (hf : f < 16) (e : pd_eq S Q) : pd_eq S' Q' := by
  obtain ⟨T, h1, h2⟩ := h
  obtain ⟨U, g1, g2⟩ := g
  refine pd_sa_eq h2 (pd_sa_eq2 g2 ?_)
  rw [← (e.1 (2 * f) (by omega)).1]
  exact pd_eq_6 (pd_be_eq h1 g1 (by omega) e)
theorem pd_fal_eq {S S' Q Q' : pdS} {f keep : Nat} (h : pd_fal S S' f keep) (g : pd_fal Q Q' f keep) (hf : f < 16) (e : pd_eq S Q) : pd_eq S' Q' := by
  obtain ⟨T, h1, h2⟩ := h
  obtain ⟨U, g1, g2⟩ := g
  have hz := (e.1 (2 * f) (by omega)).1
  have hlw := e.2.1 f hf
  rw [← hz, ← hlw] at g1
  refine pd_set_eq h2 g2 hf ?_
  rcases h1 with ⟨a1, a2⟩ | ⟨a1, a2, a3⟩ | ⟨a1, a2, a3⟩ <;> rcases g1 with ⟨b1, b2⟩ | ⟨b1, b2, b3⟩ | ⟨b1, b2, b3⟩
  · exact pd_be_eq a2 b2 (by omega) e
  · omega
  · omega
  · omega
  · exact pd_sh_eq a3 b3 (by omega) (by omega) e
  · omega
  · omega
  · omega
  · exact pd_sa_eq a3 (pd_sa_eq2 b3 e)
theorem pd_set_v {S S' : pdS} {N f : Nat} (h : pd_set S S' f) (hf : f < 16) (hv : pd_v N S) : pd_v N S' ∧ S' 4 (2 * f) = S 4 (2 * f) ∧ S' 6 f = S 4 (2 * f) := by
  obtain ⟨T, h1, h2⟩ := h
  refine ⟨pd_sa_v h2 (pd_v_6 (pd_be_v h1 (by omega) hv)), ?_, ?_⟩
  · rw [h2.2.2.1, pd_bk _ (by decide), h1.2.2.1, va_up_ne _ _ (by omega)]
  · rw [h2.2.2.2.2.1, pd_self]
end
section
/-! THE CLASS'S WORLD: 87 cells by their index -/
def pw_E (n : Nat) (ad : Nat → Nat) (cI cB cE : ClassId) (S : pdS) (k : Nat) : va_E :=
  if k = 0 then .inr (0, [.ref (ad 1), .ref (ad 2), .ref (ad 3), .int (nI (S 7 2))])
  else if k = 1 then .inr (1, [.int (nI n), .ref (ad 4), .ref (ad 5), .ref (ad 6), .int (nI (S 7 0)), .int (nI (S 7 1))])
  else if k = 2 then .inl (cE, 16, .inr (.inr (.inr (.inr (fun i => some (ad (7 + i)))))))
  else if k = 3 then .inl (cB, 4096, .inl (fun j => sb_b (S 3 j)))
  else if k = 4 then .inl (cB, n * 64, .inl (fun j => sb_b (S 0 j)))
  else if k = 5 then .inl (cI, n, .inl (fun j => nI (S 1 j)))
  else if k = 6 then .inl (cI, n, .inl (fun j => nI (S 2 j)))
  else if k < 23 then .inr (2, [.ref (ad (23 + 2 * (k - 7))), .ref (ad (23 + (2 * (k - 7) + 1))), .int (nI (S 6 (k - 7)))])
  else if k < 55 then .inr (3, [.ref (ad (55 + (k - 23))), .int (nI (S 4 (k - 23))), .int (nI (S 5 (k - 23)))])
  else .inl (cI, 400, .inl (fun j => nI (S (8 + (k - 55)) j)))
def pw (n : Nat) (ad : Nat → Nat) (cI cB cE : ClassId) (S : pdS) : va_W := (List.range 87).map (fun k => (ad k, pw_E n ad cI cB cE S k))
section PW
variable {n : Nat} {ad : Nat → Nat} {cI cB cE : ClassId} {S S' : pdS}
theorem pw_at {k : Nat} (hk : k < 87) : (pw n ad cI cB cE S)[k]? = some (ad k, pw_E n ad cI cB cE S k) := by
  unfold pw
  rw [List.getElem?_map, List.getElem?_range hk]
  rfl
theorem pw_out {k : Nat} {q : Nat × va_E} (h : (pw n ad cI cB cE S)[k]? = some q) : k < 87 ∧ q.1 = ad k := by
  unfold pw at h
  have hk : k < 87 := by
    have := (List.getElem?_eq_some_iff.mp h).1
    rw [List.length_map, List.length_range] at this
    exact this
  refine ⟨hk, ?_⟩
  rw [List.getElem?_map, List.getElem?_range hk] at h
  cases h
  rfl
theorem pw_put {k : Nat} {x : va_E} (hk : k < 87) (he : pw_E n ad cI cB cE S' k = x) (ho : ∀ j, j < 87 → j ≠ k → pw_E n ad cI cB cE S' j = pw_E n ad cI cB cE S j) : (pw n ad cI cB cE S).set k (ad k, x) = pw n ad cI cB cE S' := by
  apply List.ext_getElem?
  intro j
  by_cases hj : j < 87
  · by_cases hjk : j = k
    · subst hjk
      rw [List.getElem?_set_self (by unfold pw; rw [List.length_map, List.length_range]; exact hj), pw_at hj, he]
    · rw [List.getElem?_set_ne (fun q => hjk q.symm), pw_at hj, pw_at hj, ho j hj hjk]
  · rw [List.getElem?_eq_none (by rw [List.length_set]; unfold pw; rw [List.length_map, List.length_range]; omega), List.getElem?_eq_none (by unfold pw; rw [List.length_map, List.length_range]; omega)]
theorem pw_cg (S S' : pdS) {k : Nat} (h0 : k = 0 → S' 7 2 = S 7 2) (h1 : k = 1 → S' 7 0 = S 7 0 ∧ S' 7 1 = S 7 1) (h3 : k = 3 → S' 3 = S 3) (h4 : k = 4 → S' 0 = S 0) (h5 : k = 5 → S' 1 = S 1) (h6 : k = 6 → S' 2 = S 2) (h7 : 7 ≤ k → k < 23 → S' 6 (k - 7) = S 6 (k - 7)) (h8 : 23 ≤ k → k < 55 → S' 4 (k - 23) = S 4 (k - 23) ∧ S' 5 (k - 23) = S 5 (k - 23)) (h9 : 55 ≤ k → S' (8 + (k - 55)) = S (8 + (k - 55))) : pw_E n ad cI cB cE S' k = pw_E n ad cI cB cE S k := by
  unfold pw_E
  by_cases c0 : k = 0
  · rw [if_pos c0, if_pos c0, h0 c0]
  rw [if_neg c0, if_neg c0]
  by_cases c1 : k = 1
  · rw [if_pos c1, if_pos c1, (h1 c1).1, (h1 c1).2]
  rw [if_neg c1, if_neg c1]
  by_cases c2 : k = 2
  · rw [if_pos c2, if_pos c2]
  rw [if_neg c2, if_neg c2]
  by_cases c3 : k = 3
  · rw [if_pos c3, if_pos c3, h3 c3]
  rw [if_neg c3, if_neg c3]
  by_cases c4 : k = 4
  · rw [if_pos c4, if_pos c4, h4 c4]
  rw [if_neg c4, if_neg c4]
  by_cases c5 : k = 5
  · rw [if_pos c5, if_pos c5, h5 c5]
  rw [if_neg c5, if_neg c5]
  by_cases c6 : k = 6
  · rw [if_pos c6, if_pos c6, h6 c6]
  rw [if_neg c6, if_neg c6]
  by_cases c7 : k < 23
  · rw [if_pos c7, if_pos c7, h7 (by omega) c7]
  rw [if_neg c7, if_neg c7]
  by_cases c8 : k < 55
  · rw [if_pos c8, if_pos c8, (h8 (by omega) c8).1, (h8 (by omega) c8).2]
  rw [if_neg c8, if_neg c8, h9 (by omega)]
theorem pw_e0 : pw_E n ad cI cB cE S (0) = .inr (0, [.ref (ad 1), .ref (ad 2), .ref (ad 3), .int (nI (S 7 2))]) := by
  unfold pw_E
  rw [if_pos (by omega)]
theorem pw_g0 : (pw n ad cI cB cE S)[0]? = some (ad (0), .inr (0, [.ref (ad 1), .ref (ad 2), .ref (ad 3), .int (nI (S 7 2))])) := by
  rw [pw_at (by omega), pw_e0]
theorem pw_e1 : pw_E n ad cI cB cE S (1) = .inr (1, [.int (nI n), .ref (ad 4), .ref (ad 5), .ref (ad 6), .int (nI (S 7 0)), .int (nI (S 7 1))]) := by
  unfold pw_E
  rw [if_neg (by omega), if_pos (by omega)]
theorem pw_g1 : (pw n ad cI cB cE S)[1]? = some (ad (1), .inr (1, [.int (nI n), .ref (ad 4), .ref (ad 5), .ref (ad 6), .int (nI (S 7 0)), .int (nI (S 7 1))])) := by
  rw [pw_at (by omega), pw_e1]
theorem pw_e2 : pw_E n ad cI cB cE S (2) = .inl (cE, 16, .inr (.inr (.inr (.inr (fun i => some (ad (7 + i))))))) := by
  unfold pw_E
  rw [if_neg (by omega), if_neg (by omega), if_pos (by omega)]
theorem pw_g2 : (pw n ad cI cB cE S)[2]? = some (ad (2), .inl (cE, 16, .inr (.inr (.inr (.inr (fun i => some (ad (7 + i)))))))) := by
  rw [pw_at (by omega), pw_e2]
theorem pw_e3 : pw_E n ad cI cB cE S (3) = .inl (cB, 4096, .inl (fun j => sb_b (S 3 j))) := by
  unfold pw_E
  rw [if_neg (by omega), if_neg (by omega), if_neg (by omega), if_pos (by omega)]
theorem pw_g3 : (pw n ad cI cB cE S)[3]? = some (ad (3), .inl (cB, 4096, .inl (fun j => sb_b (S 3 j)))) := by
  rw [pw_at (by omega), pw_e3]
theorem pw_e4 : pw_E n ad cI cB cE S (4) = .inl (cB, n * 64, .inl (fun j => sb_b (S 0 j))) := by
  unfold pw_E
  rw [if_neg (by omega), if_neg (by omega), if_neg (by omega), if_neg (by omega), if_pos (by omega)]
theorem pw_g4 : (pw n ad cI cB cE S)[4]? = some (ad (4), .inl (cB, n * 64, .inl (fun j => sb_b (S 0 j)))) := by
  rw [pw_at (by omega), pw_e4]
theorem pw_e5 : pw_E n ad cI cB cE S (5) = .inl (cI, n, .inl (fun j => nI (S 1 j))) := by
  unfold pw_E
  rw [if_neg (by omega), if_neg (by omega), if_neg (by omega), if_neg (by omega), if_neg (by omega), if_pos (by omega)]
theorem pw_g5 : (pw n ad cI cB cE S)[5]? = some (ad (5), .inl (cI, n, .inl (fun j => nI (S 1 j)))) := by
  rw [pw_at (by omega), pw_e5]
theorem pw_e6 : pw_E n ad cI cB cE S (6) = .inl (cI, n, .inl (fun j => nI (S 2 j))) := by
  unfold pw_E
  rw [if_neg (by omega), if_neg (by omega), if_neg (by omega), if_neg (by omega), if_neg (by omega), if_neg (by omega), if_pos (by omega)]
theorem pw_g6 : (pw n ad cI cB cE S)[6]? = some (ad (6), .inl (cI, n, .inl (fun j => nI (S 2 j)))) := by
  rw [pw_at (by omega), pw_e6]
theorem pw_eE {i : Nat} (hi : i < 16) : pw_E n ad cI cB cE S (7 + i) = .inr (2, [.ref (ad (23 + 2 * i)), .ref (ad (23 + (2 * i + 1))), .int (nI (S 6 i))]) := by
  unfold pw_E
  rw [if_neg (by omega), if_neg (by omega), if_neg (by omega), if_neg (by omega), if_neg (by omega), if_neg (by omega), if_neg (by omega), if_pos (by omega), Nat.add_sub_cancel_left]
theorem pw_gE {i : Nat} (hi : i < 16) : (pw n ad cI cB cE S)[7 + i]? = some (ad (7 + i), .inr (2, [.ref (ad (23 + 2 * i)), .ref (ad (23 + (2 * i + 1))), .int (nI (S 6 i))])) := by
  rw [pw_at (by omega), pw_eE hi]
theorem pw_eC {i : Nat} (hi : i < 32) : pw_E n ad cI cB cE S (23 + i) = .inr (3, [.ref (ad (55 + i)), .int (nI (S 4 i)), .int (nI (S 5 i))]) := by
  unfold pw_E
  rw [if_neg (by omega), if_neg (by omega), if_neg (by omega), if_neg (by omega), if_neg (by omega), if_neg (by omega), if_neg (by omega), if_neg (by omega), if_pos (by omega), Nat.add_sub_cancel_left]
theorem pw_gC {i : Nat} (hi : i < 32) : (pw n ad cI cB cE S)[23 + i]? = some (ad (23 + i), .inr (3, [.ref (ad (55 + i)), .int (nI (S 4 i)), .int (nI (S 5 i))])) := by
  rw [pw_at (by omega), pw_eC hi]
theorem pw_eR {i : Nat} (hi : i < 32) : pw_E n ad cI cB cE S (55 + i) = .inl (cI, 400, .inl (fun j => nI (S (8 + i) j))) := by
  unfold pw_E
  rw [if_neg (by omega), if_neg (by omega), if_neg (by omega), if_neg (by omega), if_neg (by omega), if_neg (by omega), if_neg (by omega), if_neg (by omega), if_neg (by omega), Nat.add_sub_cancel_left]
theorem pw_gR {i : Nat} (hi : i < 32) : (pw n ad cI cB cE S)[55 + i]? = some (ad (55 + i), .inl (cI, 400, .inl (fun j => nI (S (8 + i) j)))) := by
  rw [pw_at (by omega), pw_eR hi]
theorem pw_staped (v : Nat) : (pw n ad cI cB cE S).set (0) (ad (0), .inr (0, [.ref (ad 1), .ref (ad 2), .ref (ad 3), .int (nI v)])) = pw n ad cI cB cE (pd_st S 7 2 v) := by
  refine pw_put (by omega) ?_ (fun j _ hj => pw_cg _ _ (fun q => absurd q hj) (fun _ => ⟨pd_ne _ (by decide), pd_ne _ (by decide)⟩) (fun _ => pd_bk _ (by decide)) (fun _ => pd_bk _ (by decide)) (fun _ => pd_bk _ (by decide)) (fun _ => pd_bk _ (by decide)) (fun _ _ => by rw [pd_bk _ (by decide)]) (fun _ _ => ⟨by rw [pd_bk _ (by decide)], by rw [pd_bk _ (by decide)]⟩) (fun _ => pd_bk _ (by omega)))
  rw [pw_e0, pd_self]
theorem pw_suc (v : Nat) : (pw n ad cI cB cE S).set (1) (ad (1), .inr (1, [.int (nI n), .ref (ad 4), .ref (ad 5), .ref (ad 6), .int (nI v), .int (nI (S 7 1))])) = pw n ad cI cB cE (pd_st S 7 0 v) := by
  refine pw_put (by omega) ?_ (fun j _ hj => pw_cg _ _ (fun _ => pd_ne _ (by decide)) (fun q => absurd q hj) (fun _ => pd_bk _ (by decide)) (fun _ => pd_bk _ (by decide)) (fun _ => pd_bk _ (by decide)) (fun _ => pd_bk _ (by decide)) (fun _ _ => by rw [pd_bk _ (by decide)]) (fun _ _ => ⟨by rw [pd_bk _ (by decide)], by rw [pd_bk _ (by decide)]⟩) (fun _ => pd_bk _ (by omega)))
  rw [pw_e1, pd_self, pd_ne _ (by decide)]
theorem pw_scop (v : Nat) : (pw n ad cI cB cE S).set (1) (ad (1), .inr (1, [.int (nI n), .ref (ad 4), .ref (ad 5), .ref (ad 6), .int (nI (S 7 0)), .int (nI v)])) = pw n ad cI cB cE (pd_st S 7 1 v) := by
  refine pw_put (by omega) ?_ (fun j _ hj => pw_cg _ _ (fun _ => pd_ne _ (by decide)) (fun q => absurd q hj) (fun _ => pd_bk _ (by decide)) (fun _ => pd_bk _ (by decide)) (fun _ => pd_bk _ (by decide)) (fun _ => pd_bk _ (by decide)) (fun _ _ => by rw [pd_bk _ (by decide)]) (fun _ _ => ⟨by rw [pd_bk _ (by decide)], by rw [pd_bk _ (by decide)]⟩) (fun _ => pd_bk _ (by omega)))
  rw [pw_e1, pd_self, pd_ne _ (by decide)]
theorem pw_slow {i : Nat} (hi : i < 16) (v : Nat) : (pw n ad cI cB cE S).set (7 + i) (ad (7 + i), .inr (2, [.ref (ad (23 + 2 * i)), .ref (ad (23 + (2 * i + 1))), .int (nI v)])) = pw n ad cI cB cE (pd_st S 6 i v) := by
  refine pw_put (by omega) ?_ (fun j _ hj => pw_cg _ _ (fun _ => by rw [pd_bk _ (by decide)]) (fun _ => ⟨by rw [pd_bk _ (by decide)], by rw [pd_bk _ (by decide)]⟩) (fun _ => pd_bk _ (by decide)) (fun _ => pd_bk _ (by decide)) (fun _ => pd_bk _ (by decide)) (fun _ => pd_bk _ (by decide)) (fun _ _ => pd_ne _ (by omega)) (fun _ _ => ⟨by rw [pd_bk _ (by decide)], by rw [pd_bk _ (by decide)]⟩) (fun _ => pd_bk _ (by omega)))
  rw [pw_eE hi, pd_self]
theorem pw_ssize {i : Nat} (hi : i < 32) (v : Nat) : (pw n ad cI cB cE S).set (23 + i) (ad (23 + i), .inr (3, [.ref (ad (55 + i)), .int (nI v), .int (nI (S 5 i))])) = pw n ad cI cB cE (pd_st S 4 i v) := by
  refine pw_put (by omega) ?_ (fun j _ hj => pw_cg _ _ (fun _ => by rw [pd_bk _ (by decide)]) (fun _ => ⟨by rw [pd_bk _ (by decide)], by rw [pd_bk _ (by decide)]⟩) (fun _ => pd_bk _ (by decide)) (fun _ => pd_bk _ (by decide)) (fun _ => pd_bk _ (by decide)) (fun _ => pd_bk _ (by decide)) (fun _ _ => by rw [pd_bk _ (by decide)]) (fun _ _ => ⟨pd_ne _ (by omega), by rw [pd_bk _ (by decide)]⟩) (fun _ => pd_bk _ (by omega)))
  rw [pw_eC hi, pd_self, pd_bk _ (by decide)]
theorem pw_sthere {i : Nat} (hi : i < 32) (v : Nat) : (pw n ad cI cB cE S).set (23 + i) (ad (23 + i), .inr (3, [.ref (ad (55 + i)), .int (nI (S 4 i)), .int (nI v)])) = pw n ad cI cB cE (pd_st S 5 i v) := by
  refine pw_put (by omega) ?_ (fun j _ hj => pw_cg _ _ (fun _ => by rw [pd_bk _ (by decide)]) (fun _ => ⟨by rw [pd_bk _ (by decide)], by rw [pd_bk _ (by decide)]⟩) (fun _ => pd_bk _ (by decide)) (fun _ => pd_bk _ (by decide)) (fun _ => pd_bk _ (by decide)) (fun _ => pd_bk _ (by decide)) (fun _ _ => by rw [pd_bk _ (by decide)]) (fun _ _ => ⟨by rw [pd_bk _ (by decide)], pd_ne _ (by omega)⟩) (fun _ => pd_bk _ (by omega)))
  rw [pw_eC hi, pd_self, pd_bk _ (by decide)]
theorem pw_stape (k v : Nat) : (pw n ad cI cB cE S).set (3) (ad (3), .inl (cB, 4096, .inl (fun j => sb_b (va_up (S 3) k v j)))) = pw n ad cI cB cE (pd_st S 3 k v) := by
  refine pw_put (by omega) ?_ (fun j _ hj => pw_cg _ _ (fun _ => by rw [pd_bk _ (by decide)]) (fun _ => ⟨by rw [pd_bk _ (by decide)], by rw [pd_bk _ (by decide)]⟩) (fun q => absurd q hj) (fun _ => pd_bk _ (by decide)) (fun _ => pd_bk _ (by decide)) (fun _ => pd_bk _ (by decide)) (fun _ _ => by rw [pd_bk _ (by decide)]) (fun _ _ => ⟨by rw [pd_bk _ (by decide)], by rw [pd_bk _ (by decide)]⟩) (fun _ => pd_bk _ (by omega)))
  rw [pw_e3, pd_own]
theorem pw_sbyte (k v : Nat) : (pw n ad cI cB cE S).set (4) (ad (4), .inl (cB, n * 64, .inl (fun j => sb_b (va_up (S 0) k v j)))) = pw n ad cI cB cE (pd_st S 0 k v) := by
  refine pw_put (by omega) ?_ (fun j _ hj => pw_cg _ _ (fun _ => by rw [pd_bk _ (by decide)]) (fun _ => ⟨by rw [pd_bk _ (by decide)], by rw [pd_bk _ (by decide)]⟩) (fun _ => pd_bk _ (by decide)) (fun q => absurd q hj) (fun _ => pd_bk _ (by decide)) (fun _ => pd_bk _ (by decide)) (fun _ _ => by rw [pd_bk _ (by decide)]) (fun _ _ => ⟨by rw [pd_bk _ (by decide)], by rw [pd_bk _ (by decide)]⟩) (fun _ => pd_bk _ (by omega)))
  rw [pw_e4, pd_own]
theorem pw_srw (k v : Nat) : (pw n ad cI cB cE S).set (5) (ad (5), .inl (cI, n, .inl (fun j => nI (va_up (S 1) k v j)))) = pw n ad cI cB cE (pd_st S 1 k v) := by
  refine pw_put (by omega) ?_ (fun j _ hj => pw_cg _ _ (fun _ => by rw [pd_bk _ (by decide)]) (fun _ => ⟨by rw [pd_bk _ (by decide)], by rw [pd_bk _ (by decide)]⟩) (fun _ => pd_bk _ (by decide)) (fun _ => pd_bk _ (by decide)) (fun q => absurd q hj) (fun _ => pd_bk _ (by decide)) (fun _ _ => by rw [pd_bk _ (by decide)]) (fun _ _ => ⟨by rw [pd_bk _ (by decide)], by rw [pd_bk _ (by decide)]⟩) (fun _ => pd_bk _ (by omega)))
  rw [pw_e5, pd_own]
theorem pw_sun (k v : Nat) : (pw n ad cI cB cE S).set (6) (ad (6), .inl (cI, n, .inl (fun j => nI (va_up (S 2) k v j)))) = pw n ad cI cB cE (pd_st S 2 k v) := by
  refine pw_put (by omega) ?_ (fun j _ hj => pw_cg _ _ (fun _ => by rw [pd_bk _ (by decide)]) (fun _ => ⟨by rw [pd_bk _ (by decide)], by rw [pd_bk _ (by decide)]⟩) (fun _ => pd_bk _ (by decide)) (fun _ => pd_bk _ (by decide)) (fun _ => pd_bk _ (by decide)) (fun q => absurd q hj) (fun _ _ => by rw [pd_bk _ (by decide)]) (fun _ _ => ⟨by rw [pd_bk _ (by decide)], by rw [pd_bk _ (by decide)]⟩) (fun _ => pd_bk _ (by omega)))
  rw [pw_e6, pd_own]
theorem pw_srow {i : Nat} (hi : i < 32) (k v : Nat) : (pw n ad cI cB cE S).set (55 + i) (ad (55 + i), .inl (cI, 400, .inl (fun j => nI (va_up (S (8 + i)) k v j)))) = pw n ad cI cB cE (pd_st S (8 + i) k v) := by
  refine pw_put (by omega) ?_ (fun j _ hj => pw_cg _ _ (fun _ => by rw [pd_bk _ (by omega)]) (fun _ => ⟨by rw [pd_bk _ (by omega)], by rw [pd_bk _ (by omega)]⟩) (fun _ => pd_bk _ (by omega)) (fun _ => pd_bk _ (by omega)) (fun _ => pd_bk _ (by omega)) (fun _ => pd_bk _ (by omega)) (fun _ _ => by rw [pd_bk _ (by omega)]) (fun _ _ => ⟨by rw [pd_bk _ (by omega)], by rw [pd_bk _ (by omega)]⟩) (fun _ => pd_bk _ (by omega)))
  rw [pw_eR hi, pd_own]
theorem pw_bbyte (g : Nat → Nat) : (pw n ad cI cB cE S).set (4) (ad (4), .inl (cB, n * 64, .inl (fun j => sb_b (g j)))) = pw n ad cI cB cE (va_up S 0 g) := by
  refine pw_put (by omega) ?_ (fun j _ hj => pw_cg _ _ (fun _ => by rw [va_up_ne _ _ (by decide)]) (fun _ => ⟨by rw [va_up_ne _ _ (by decide)], by rw [va_up_ne _ _ (by decide)]⟩) (fun _ => va_up_ne _ _ (by decide)) (fun q => absurd q hj) (fun _ => va_up_ne _ _ (by decide)) (fun _ => va_up_ne _ _ (by decide)) (fun _ _ => by rw [va_up_ne _ _ (by decide)]) (fun _ _ => ⟨by rw [va_up_ne _ _ (by decide)], by rw [va_up_ne _ _ (by decide)]⟩) (fun _ => va_up_ne _ _ (by omega)))
  rw [pw_e4, va_up_self]
theorem pw_brow {i : Nat} (hi : i < 32) (g : Nat → Nat) : (pw n ad cI cB cE S).set (55 + i) (ad (55 + i), .inl (cI, 400, .inl (fun j => nI (g j)))) = pw n ad cI cB cE (va_up S (8 + i) g) := by
  refine pw_put (by omega) ?_ (fun j _ hj => pw_cg _ _ (fun _ => by rw [va_up_ne _ _ (by omega)]) (fun _ => ⟨by rw [va_up_ne _ _ (by omega)], by rw [va_up_ne _ _ (by omega)]⟩) (fun _ => va_up_ne _ _ (by omega)) (fun _ => va_up_ne _ _ (by omega)) (fun _ => va_up_ne _ _ (by omega)) (fun _ => va_up_ne _ _ (by omega)) (fun _ _ => by rw [va_up_ne _ _ (by omega)]) (fun _ _ => ⟨by rw [va_up_ne _ _ (by omega)], by rw [va_up_ne _ _ (by omega)]⟩) (fun _ => va_up_ne _ _ (by omega)))
  rw [pw_eR hi, va_up_self]
end PW
end
section
/-! WORLDS before and behind calls; loops -/
def pw_pre (D : va_G) (tys : List (ClassId × FieldType)) (Wd : va_W) (sz : Nat) : State → Prop := fun U => U.heap.size = sz ∧ va_P D pwCl Wd U.heap ∧ va_K D pwCl tys U ∧ va_D (fun _ => True) Wd
def pw_pos {σ : Type} (D : va_G) (tys : List (ClassId × FieldType)) (Wf : σ → va_W) (A : Nat → Prop) : σ → State → Prop := fun u t => va_P D pwCl (Wf u) t.heap ∧ va_K D pwCl tys t ∧ va_D A (Wf u)
section PC
variable {p : Program} {l : Launch} {e : Env} {R : Room} {s : State} {m : MethodId} {args : Array Value} {below : List Frame} {meth : Method} {c : Code} {H : Heap} {locs : List Loc} {cells slots : Nat} {Q : State → Prop}
variable {D : va_G} {tys : List (ClassId × FieldType)} {Wd : va_W} {A : Nat → Prop} {H0 : Heap} {pc : Nat} {ls : Array Slot} {rest st0 : List Value} {a : Array Value} {mc ms : Nat}
theorem pw_blind (av : List Value) (sz : Nat) : FrameBlind (va_Pc av (pw_pre D tys Wd sz)) := fun a U g mk q => by
  obtain ⟨q0, q1, qP, qK, qD⟩ := q
  exact ⟨q0, q1, qP, va_K.moved (u := U) (U := U.calling g mk a) (Vm.Alike.refl U.vm) qK, qD⟩
theorem pw_ps (hK : va_K D pwCl tys s) (hP : va_P D pwCl Wd H) (hD : va_D A Wd) (av : List Value) : PreS s H (va_Pc av (pw_pre D tys Wd H.size)) av := ⟨pw_blind av _, fun U hU hW => ⟨rfl, by rw [hU], by rw [hU]; exact hP, va_K.moved hW.alike hK, hD.weaken (fun _ _ _ _ => trivial)⟩⟩
theorem pw_pv (hK : va_K D pwCl tys s) (hP : va_P D pwCl Wd H) (hD : va_D A Wd) {C : String} {b : Addr} (hrec : ∃ cell : Cell, H[b]? = some cell ∧ cell.vm.isStatics = false ∧ s.vm.findClass C = some cell.cls) (As : List Value) : PreV s H C b (va_Pc (.ref b :: As) (pw_pre D tys Wd H.size)) As := ⟨pw_blind _ _, hrec, fun U hU hW => ⟨rfl, by rw [hU], by rw [hU]; exact hP, va_K.moved hW.alike hK, hD.weaken (fun _ _ _ _ => trivial)⟩⟩
theorem pw_hF (hD : va_D A Wd) (hS : va_S A H0 H locs) (hA : ∀ q, H0.size ≤ q → A q) : ∀ q, va_A Wd H.size q → A q := fun q h => by
  rcases h with ⟨k, x, h⟩ | h
  · exact hD.2 k (q, x) h
  · exact hA q (Nat.le_trans hS.1 h)
theorem pw_calli {σ : Type} {post : Int32 → σ → Prop} {Wf : σ → va_W} (hr : va_Run p l e R s m args below meth c H locs cells slots mc ms (F0 m pc ls st0) rest (va_Qi post (pw_pos D tys Wf (va_A Wd H.size)) (va_A Wd H.size) a) (va_A Wd H.size)) (hD : va_D A Wd) (hS : va_S A H0 H locs) (hA : ∀ q, H0.size ≤ q → A q) (kk : ∀ (r : Int32) (u : σ) (H1 : Heap) (locs1 : List Loc), post r u → va_P D pwCl (Wf u) H1 → va_D A (Wf u) → va_S A H0 H1 locs1 → W p l e R s m args below meth c H1 locs1 (cells + mc) (slots + ms) Q (F0 m (pc + 3) ls (.int r :: rest))) : W p l e R s m args below meth c H locs cells slots Q (F0 m pc ls st0) := by
  have hF := pw_hF hD hS hA
  refine va_calli hr hS (fun q _ h => hF q h) hF (fun r u t H1 locs1 ht hvm hw hB hz1 hk1 hS1 => ?_)
  obtain ⟨hP1, hK1, hD1⟩ := hB
  exact kk r u H1 locs1 hw (by rw [← ht]; exact hP1) (hD1.weaken (fun k q _ h => hF q.1 h)) hS1
theorem pw_calll {σ : Type} {post : Int64 → σ → Prop} {Wf : σ → va_W} (hr : va_Run p l e R s m args below meth c H locs cells slots mc ms (F0 m pc ls st0) rest (va_Ql post (pw_pos D tys Wf (va_A Wd H.size)) (va_A Wd H.size) a) (va_A Wd H.size)) (hD : va_D A Wd) (hS : va_S A H0 H locs) (hA : ∀ q, H0.size ≤ q → A q) (kk : ∀ (r : Int64) (u : σ) (H1 : Heap) (locs1 : List Loc), post r u → va_P D pwCl (Wf u) H1 → va_D A (Wf u) → va_S A H0 H1 locs1 → W p l e R s m args below meth c H1 locs1 (cells + mc) (slots + ms) Q (F0 m (pc + 3) ls (.long r :: rest))) : W p l e R s m args below meth c H locs cells slots Q (F0 m pc ls st0) := by
  have hF := pw_hF hD hS hA
  refine va_calll hr hS (fun q _ h => hF q h) hF (fun r u t H1 locs1 ht hvm hw hB hz1 hk1 hS1 => ?_)
  obtain ⟨hP1, hK1, hD1⟩ := hB
  exact kk r u H1 locs1 hw (by rw [← ht]; exact hP1) (hD1.weaken (fun k q _ h => hF q.1 h)) hS1
theorem pw_callv {σ : Type} {post : σ → Prop} {Wf : σ → va_W} (hr : va_Run p l e R s m args below meth c H locs cells slots mc ms (F0 m pc ls st0) rest (va_Qv post (pw_pos D tys Wf (va_A Wd H.size)) (va_A Wd H.size) a) (va_A Wd H.size)) (hD : va_D A Wd) (hS : va_S A H0 H locs) (hA : ∀ q, H0.size ≤ q → A q) (kk : ∀ (u : σ) (H1 : Heap) (locs1 : List Loc), post u → va_P D pwCl (Wf u) H1 → va_D A (Wf u) → va_S A H0 H1 locs1 → W p l e R s m args below meth c H1 locs1 (cells + mc) (slots + ms) Q (F0 m (pc + 3) ls (rest))) : W p l e R s m args below meth c H locs cells slots Q (F0 m pc ls st0) := by
  have hF := pw_hF hD hS hA
  refine va_callv hr hS (fun q _ h => hF q h) hF (fun u t H1 locs1 ht hvm hw hB hz1 hk1 hS1 => ?_)
  obtain ⟨hP1, hK1, hD1⟩ := hB
  exact kk u H1 locs1 hw (by rw [← ht]; exact hP1) (hD1.weaken (fun k q _ h => hF q.1 h)) hS1
theorem pw_loop {pc : Nat} (I : Nat → Heap → List Loc → Array Slot → Prop) (step : ∀ k H locs ls, I k H locs ls → (∀ k' H' locs' ls', k' < k → I k' H' locs' ls' → W p l e R s m args below meth c H' locs' cells slots Q (F0 m pc ls' [])) → W p l e R s m args below meth c H locs cells slots Q (F0 m pc ls [])) : ∀ k H locs ls, I k H locs ls → W p l e R s m args below meth c H locs cells slots Q (F0 m pc ls []) := by
  intro k
  induction k using Nat.strongRecOn with
  | ind k ih =>
    intro H locs ls h
    exact step k H locs ls h (fun k' H' locs' ls' hk hI => ih k' hk H' locs' ls' hI)
end PC
end
section
/-! CONTRACTS' shapes; stores into the class's world -/
abbrev pw_ty (cI cB cE cL cZ : ClassId) : List (ClassId × FieldType) := [(cI, .int), (cB, .byte), (cE, .object "PageDrive$Entry"), (cL, .long), (cZ, .boolean)]
abbrev CMi (l : Launch) (D : va_G) (tys : List (ClassId × FieldType)) (y : MethodName) (w : List Cond) (rm : Room) (av : List Value) (Wd : va_W) {σ : Type} (Wf : σ → va_W) (sz : Nat) (post : Int32 → σ → Prop) : Prop := Met l y w rm (va_Pc av (pw_pre D tys Wd sz)) (va_Qi post (pw_pos D tys Wf (va_A Wd sz)) (va_A Wd sz)) 0 0 (va_A Wd sz)
abbrev CMv (l : Launch) (D : va_G) (tys : List (ClassId × FieldType)) (y : MethodName) (w : List Cond) (rm : Room) (av : List Value) (Wd : va_W) {σ : Type} (Wf : σ → va_W) (sz : Nat) (post : σ → Prop) : Prop := Met l y w rm (va_Pc av (pw_pre D tys Wd sz)) (va_Qv post (pw_pos D tys Wf (va_A Wd sz)) (va_A Wd sz)) 0 0 (va_A Wd sz)
theorem pw_n01 {ty : FieldType} {v : Nat} (h : v ≤ 1) (ht : ty = .boolean) : narrow ty (.int (nI v)) = .int (nI v) ∧ fits ty (.int (nI v)) = true := by
  subst ht
  rcases (show v = 0 ∨ v = 1 by omega) with rfl | rfl <;> exact ⟨rfl, rfl⟩
theorem pw_nI {v : Nat} : narrow .int (.int (nI v)) = .int (nI v) := rfl
section PP
variable {p : Program} {l : Launch} {e : Env} {R : Room} {s : State} {m : MethodId} {args : Array Value} {below : List Frame} {meth : Method} {c : Code} {H : Heap} {locs : List Loc} {cells slots : Nat} {Q : State → Prop}
variable {cc : ByteArray} {pc : Nat} {ls : Array Slot} {rest : List Value} {D : va_G} {A : Nat → Prop} {tys : List (ClassId × FieldType)} {H0 : Heap} {n : Nat} {ad : Nat → Nat} {cI cB cE : ClassId} {S : pdS} {own : String} {index : Nat}
theorem pr_taped (hx : p.tables.exec = Jvm.exec) (hb : c.code = cc) (hg : ∀ w ∈ wsG, w.before args s = true) (hown : s.vm.findClass own = some m.cls) (hK : va_K D pwCl tys s) (hP : va_P D pwCl (pw n ad cI cB cE S) H) (hD : va_D A (pw n ad cI cB cE S)) (hS : va_S A H0 H locs) {v : Nat} (hlink : (Cond.fieldLink own index "PageDrive" "taped" "I").before args s = true) (hdg : decode cc pc = .ok (.putfield index, 3)) (kk : ∀ (H1 : Heap) (locs1 : List Loc), va_P D pwCl (pw n ad cI cB cE (pd_st S 7 2 v)) H1 → va_D A (pw n ad cI cB cE (pd_st S 7 2 v)) → va_S A H0 H1 locs1 → W p l e R s m args below meth c H1 locs1 cells slots Q (F0 m (pc + 3) ls rest)) : W p l e R s m args below meth c H locs cells slots Q (F0 m pc ls (.int (nI v) :: .ref (ad (0)) :: rest)) := va_put (ty := .int) (C := "PageDrive") (T := F_PD) (N := 4) hx hb hg iw_PD t_PD tok_PD n_PD hown hK hP hD hS (0) pw_g0 rfl 3 (by decide) hlink (fun _ h => h) rfl (by decide +kernel) (pw_nI) (rfl) (Nat.le_of_ble_eq_true rfl) hdg (fun H1 locs1 hP hD hS => kk H1 locs1 (by rw [← pw_staped v]; exact hP) (by rw [← pw_staped v]; exact hD) hS)
theorem pr_uc (hx : p.tables.exec = Jvm.exec) (hb : c.code = cc) (hg : ∀ w ∈ wsG, w.before args s = true) (hown : s.vm.findClass own = some m.cls) (hK : va_K D pwCl tys s) (hP : va_P D pwCl (pw n ad cI cB cE S) H) (hD : va_D A (pw n ad cI cB cE S)) (hS : va_S A H0 H locs) {v : Nat} (hlink : (Cond.fieldLink own index "PageDrive$Pool" "unusedCount" "I").before args s = true) (hdg : decode cc pc = .ok (.putfield index, 3)) (kk : ∀ (H1 : Heap) (locs1 : List Loc), va_P D pwCl (pw n ad cI cB cE (pd_st S 7 0 v)) H1 → va_D A (pw n ad cI cB cE (pd_st S 7 0 v)) → va_S A H0 H1 locs1 → W p l e R s m args below meth c H1 locs1 cells slots Q (F0 m (pc + 3) ls rest)) : W p l e R s m args below meth c H locs cells slots Q (F0 m pc ls (.int (nI v) :: .ref (ad (1)) :: rest)) := va_put (ty := .int) (C := "PageDrive$Pool") (T := F_PO) (N := 6) hx hb hg iw_PO t_PO tok_PO n_PO hown hK hP hD hS (1) pw_g1 rfl 4 (by decide) hlink (fun _ h => h) rfl (by decide +kernel) (pw_nI) (rfl) (Nat.le_of_ble_eq_true rfl) hdg (fun H1 locs1 hP hD hS => kk H1 locs1 (by rw [← pw_suc v]; exact hP) (by rw [← pw_suc v]; exact hD) hS)
theorem pr_cop (hx : p.tables.exec = Jvm.exec) (hb : c.code = cc) (hg : ∀ w ∈ wsG, w.before args s = true) (hown : s.vm.findClass own = some m.cls) (hK : va_K D pwCl tys s) (hP : va_P D pwCl (pw n ad cI cB cE S) H) (hD : va_D A (pw n ad cI cB cE S)) (hS : va_S A H0 H locs) {v : Nat} (hlink : (Cond.fieldLink own index "PageDrive$Pool" "copied" "I").before args s = true) (hdg : decode cc pc = .ok (.putfield index, 3)) (kk : ∀ (H1 : Heap) (locs1 : List Loc), va_P D pwCl (pw n ad cI cB cE (pd_st S 7 1 v)) H1 → va_D A (pw n ad cI cB cE (pd_st S 7 1 v)) → va_S A H0 H1 locs1 → W p l e R s m args below meth c H1 locs1 cells slots Q (F0 m (pc + 3) ls rest)) : W p l e R s m args below meth c H locs cells slots Q (F0 m pc ls (.int (nI v) :: .ref (ad (1)) :: rest)) := va_put (ty := .int) (C := "PageDrive$Pool") (T := F_PO) (N := 6) hx hb hg iw_PO t_PO tok_PO n_PO hown hK hP hD hS (1) pw_g1 rfl 5 (by decide) hlink (fun _ h => h) rfl (by decide +kernel) (pw_nI) (rfl) (Nat.le_of_ble_eq_true rfl) hdg (fun H1 locs1 hP hD hS => kk H1 locs1 (by rw [← pw_scop v]; exact hP) (by rw [← pw_scop v]; exact hD) hS)
theorem pr_low (hx : p.tables.exec = Jvm.exec) (hb : c.code = cc) (hg : ∀ w ∈ wsG, w.before args s = true) (hown : s.vm.findClass own = some m.cls) (hK : va_K D pwCl tys s) (hP : va_P D pwCl (pw n ad cI cB cE S) H) (hD : va_D A (pw n ad cI cB cE S)) (hS : va_S A H0 H locs) {i : Nat} (hi : i < 16) {v : Nat} (hlink : (Cond.fieldLink own index "PageDrive$Entry" "low" "I").before args s = true) (hdg : decode cc pc = .ok (.putfield index, 3)) (kk : ∀ (H1 : Heap) (locs1 : List Loc), va_P D pwCl (pw n ad cI cB cE (pd_st S 6 i v)) H1 → va_D A (pw n ad cI cB cE (pd_st S 6 i v)) → va_S A H0 H1 locs1 → W p l e R s m args below meth c H1 locs1 cells slots Q (F0 m (pc + 3) ls rest)) : W p l e R s m args below meth c H locs cells slots Q (F0 m pc ls (.int (nI v) :: .ref (ad (7 + i)) :: rest)) := va_put (ty := .int) (C := "PageDrive$Entry") (T := F_EN) (N := 3) hx hb hg iw_EN t_EN tok_EN n_EN hown hK hP hD hS (7 + i) (pw_gE hi) rfl 2 (by decide) hlink (fun _ h => h) rfl (by decide +kernel) (pw_nI) (rfl) (Nat.le_of_ble_eq_true rfl) hdg (fun H1 locs1 hP hD hS => kk H1 locs1 (by rw [← pw_slow hi v]; exact hP) (by rw [← pw_slow hi v]; exact hD) hS)
theorem pr_size (hx : p.tables.exec = Jvm.exec) (hb : c.code = cc) (hg : ∀ w ∈ wsG, w.before args s = true) (hown : s.vm.findClass own = some m.cls) (hK : va_K D pwCl tys s) (hP : va_P D pwCl (pw n ad cI cB cE S) H) (hD : va_D A (pw n ad cI cB cE S)) (hS : va_S A H0 H locs) {i : Nat} (hi : i < 32) {v : Nat} (hlink : (Cond.fieldLink own index "PageDrive$Content" "size" "I").before args s = true) (hdg : decode cc pc = .ok (.putfield index, 3)) (kk : ∀ (H1 : Heap) (locs1 : List Loc), va_P D pwCl (pw n ad cI cB cE (pd_st S 4 i v)) H1 → va_D A (pw n ad cI cB cE (pd_st S 4 i v)) → va_S A H0 H1 locs1 → W p l e R s m args below meth c H1 locs1 cells slots Q (F0 m (pc + 3) ls rest)) : W p l e R s m args below meth c H locs cells slots Q (F0 m pc ls (.int (nI v) :: .ref (ad (23 + i)) :: rest)) := va_put (ty := .int) (C := "PageDrive$Content") (T := F_CO) (N := 3) hx hb hg iw_CO t_CO tok_CO n_CO hown hK hP hD hS (23 + i) (pw_gC hi) rfl 1 (by decide) hlink (fun _ h => h) rfl (by decide +kernel) (pw_nI) (rfl) (Nat.le_of_ble_eq_true rfl) hdg (fun H1 locs1 hP hD hS => kk H1 locs1 (by rw [← pw_ssize hi v]; exact hP) (by rw [← pw_ssize hi v]; exact hD) hS)
theorem pr_there (hx : p.tables.exec = Jvm.exec) (hb : c.code = cc) (hg : ∀ w ∈ wsG, w.before args s = true) (hown : s.vm.findClass own = some m.cls) (hK : va_K D pwCl tys s) (hP : va_P D pwCl (pw n ad cI cB cE S) H) (hD : va_D A (pw n ad cI cB cE S)) (hS : va_S A H0 H locs) {i : Nat} (hi : i < 32) {v : Nat} (hv : v ≤ 1) (hlink : (Cond.fieldLink own index "PageDrive$Content" "there" "Z").before args s = true) (hdg : decode cc pc = .ok (.putfield index, 3)) (kk : ∀ (H1 : Heap) (locs1 : List Loc), va_P D pwCl (pw n ad cI cB cE (pd_st S 5 i v)) H1 → va_D A (pw n ad cI cB cE (pd_st S 5 i v)) → va_S A H0 H1 locs1 → W p l e R s m args below meth c H1 locs1 cells slots Q (F0 m (pc + 3) ls rest)) : W p l e R s m args below meth c H locs cells slots Q (F0 m pc ls (.int (nI v) :: .ref (ad (23 + i)) :: rest)) := va_put (ty := .boolean) (C := "PageDrive$Content") (T := F_CO) (N := 3) hx hb hg iw_CO t_CO tok_CO n_CO hown hK hP hD hS (23 + i) (pw_gC hi) rfl 2 (by decide) hlink (fun _ h => h) rfl (by decide +kernel) ((pw_n01 hv rfl).1) ((pw_n01 hv rfl).2) (Nat.le_of_ble_eq_true rfl) hdg (fun H1 locs1 hP hD hS => kk H1 locs1 (by rw [← pw_sthere hi v]; exact hP) (by rw [← pw_sthere hi v]; exact hD) hS)
theorem pr_rw (hx : p.tables.exec = Jvm.exec) (hb : c.code = cc) (hK : va_K D pwCl tys s) (hP : va_P D pwCl (pw n ad cI cB cE S) H) (hD : va_D A (pw n ad cI cB cE S)) (hS : va_S A H0 H locs) {k v : Nat} (hk : k < n) (hn : n < 2 ^ 31) (ht : tys[0]? = some (cI, .int)) (hdg : decode cc pc = .ok (.iastore, 1)) (kk : ∀ (H1 : Heap) (locs1 : List Loc), va_P D pwCl (pw n ad cI cB cE (pd_st S 1 k v)) H1 → va_D A (pw n ad cI cB cE (pd_st S 1 k v)) → va_S A H0 H1 locs1 → W p l e R s m args below meth c H1 locs1 cells slots Q (F0 m (pc + 1) ls rest)) : W p l e R s m args below meth c H locs cells slots Q (F0 m pc ls (.int (nI v) :: .int (nI k) :: .ref (ad (5)) :: rest)) := va_iast hx hb hK hP hD hS (5) 0 pw_g5 ht (vp_in_nI hk hn) hdg (fun H1 locs1 hP hD hS => by
    rw [nI_clamp (Nat.lt_trans hk hn), pq_updI, pw_srw] at hP hD
    exact kk H1 locs1 hP hD hS)
theorem pr_un (hx : p.tables.exec = Jvm.exec) (hb : c.code = cc) (hK : va_K D pwCl tys s) (hP : va_P D pwCl (pw n ad cI cB cE S) H) (hD : va_D A (pw n ad cI cB cE S)) (hS : va_S A H0 H locs) {k v : Nat} (hk : k < n) (hn : n < 2 ^ 31) (ht : tys[0]? = some (cI, .int)) (hdg : decode cc pc = .ok (.iastore, 1)) (kk : ∀ (H1 : Heap) (locs1 : List Loc), va_P D pwCl (pw n ad cI cB cE (pd_st S 2 k v)) H1 → va_D A (pw n ad cI cB cE (pd_st S 2 k v)) → va_S A H0 H1 locs1 → W p l e R s m args below meth c H1 locs1 cells slots Q (F0 m (pc + 1) ls rest)) : W p l e R s m args below meth c H locs cells slots Q (F0 m pc ls (.int (nI v) :: .int (nI k) :: .ref (ad (6)) :: rest)) := va_iast hx hb hK hP hD hS (6) 0 pw_g6 ht (vp_in_nI hk hn) hdg (fun H1 locs1 hP hD hS => by
    rw [nI_clamp (Nat.lt_trans hk hn), pq_updI, pw_sun] at hP hD
    exact kk H1 locs1 hP hD hS)
theorem pr_row (hx : p.tables.exec = Jvm.exec) (hb : c.code = cc) (hK : va_K D pwCl tys s) (hP : va_P D pwCl (pw n ad cI cB cE S) H) (hD : va_D A (pw n ad cI cB cE S)) (hS : va_S A H0 H locs) {i : Nat} (hi : i < 32) {k v : Nat} (hk : k < 400) (hn : 400 < 2 ^ 31) (ht : tys[0]? = some (cI, .int)) (hdg : decode cc pc = .ok (.iastore, 1)) (kk : ∀ (H1 : Heap) (locs1 : List Loc), va_P D pwCl (pw n ad cI cB cE (pd_st S (8 + i) k v)) H1 → va_D A (pw n ad cI cB cE (pd_st S (8 + i) k v)) → va_S A H0 H1 locs1 → W p l e R s m args below meth c H1 locs1 cells slots Q (F0 m (pc + 1) ls rest)) : W p l e R s m args below meth c H locs cells slots Q (F0 m pc ls (.int (nI v) :: .int (nI k) :: .ref (ad (55 + i)) :: rest)) := va_iast hx hb hK hP hD hS (55 + i) 0 (pw_gR hi) ht (vp_in_nI hk hn) hdg (fun H1 locs1 hP hD hS => by
    rw [nI_clamp (Nat.lt_trans hk hn), pq_updI, pw_srow hi] at hP hD
    exact kk H1 locs1 hP hD hS)
theorem pr_tape (hx : p.tables.exec = Jvm.exec) (hb : c.code = cc) (hK : va_K D pwCl tys s) (hP : va_P D pwCl (pw n ad cI cB cE S) H) (hD : va_D A (pw n ad cI cB cE S)) (hS : va_S A H0 H locs) {k v : Nat} (hk : k < 4096) (hn : 4096 < 2 ^ 31) (ht : tys[1]? = some (cB, .byte)) (hdg : decode cc pc = .ok (.bastore, 1)) (kk : ∀ (H1 : Heap) (locs1 : List Loc), va_P D pwCl (pw n ad cI cB cE (pd_st S 3 k v)) H1 → va_D A (pw n ad cI cB cE (pd_st S 3 k v)) → va_S A H0 H1 locs1 → W p l e R s m args below meth c H1 locs1 cells slots Q (F0 m (pc + 1) ls rest)) : W p l e R s m args below meth c H locs cells slots Q (F0 m pc ls (.int (sb_b v) :: .int (nI k) :: .ref (ad (3)) :: rest)) := va_bast hx hb hK hP hD hS (3) 1 pw_g3 ht (vp_in_nI hk hn) hdg (fun H1 locs1 hP hD hS => by
    rw [nI_clamp (Nat.lt_trans hk hn), pq_updB, pw_stape] at hP hD
    exact kk H1 locs1 hP hD hS)
theorem pr_byte (hx : p.tables.exec = Jvm.exec) (hb : c.code = cc) (hK : va_K D pwCl tys s) (hP : va_P D pwCl (pw n ad cI cB cE S) H) (hD : va_D A (pw n ad cI cB cE S)) (hS : va_S A H0 H locs) {k v : Nat} (hk : k < n * 64) (hn : n * 64 < 2 ^ 31) (ht : tys[1]? = some (cB, .byte)) (hdg : decode cc pc = .ok (.bastore, 1)) (kk : ∀ (H1 : Heap) (locs1 : List Loc), va_P D pwCl (pw n ad cI cB cE (pd_st S 0 k v)) H1 → va_D A (pw n ad cI cB cE (pd_st S 0 k v)) → va_S A H0 H1 locs1 → W p l e R s m args below meth c H1 locs1 cells slots Q (F0 m (pc + 1) ls rest)) : W p l e R s m args below meth c H locs cells slots Q (F0 m pc ls (.int (sb_b v) :: .int (nI k) :: .ref (ad (4)) :: rest)) := va_bast hx hb hK hP hD hS (4) 1 pw_g4 ht (vp_in_nI hk hn) hdg (fun H1 locs1 hP hD hS => by
    rw [nI_clamp (Nat.lt_trans hk hn), pq_updB, pw_sbyte] at hP hD
    exact kk H1 locs1 hP hD hS)
theorem pr_ent (hx : p.tables.exec = Jvm.exec) (hb : c.code = cc) (hK : va_K D pwCl tys s) (hP : va_P D pwCl (pw n ad cI cB cE S) H) {i : Nat} (hi : i < 16) {C : String} (ht : tys[2]? = some (cE, .object C)) (hdg : decode cc pc = .ok (.aaload, 1)) (kk : W p l e R s m args below meth c H locs cells slots Q (F0 m (pc + 1) ls (.ref (ad (7 + i)) :: rest))) : W p l e R s m args below meth c H locs cells slots Q (F0 m pc ls (.int (nI i) :: .ref (ad 2) :: rest)) := va_aldq hx hb hK hP 2 2 pw_g2 ht (vp_in_nI hi (by decide)) hdg (by rw [nI_clamp (by omega)]; exact kk)
end PP
end
section
/-! COPIES in the class's world; bounds of counts -/
theorem pd_rc_le (r : Nat → Nat) (p : Nat) : ∀ m, pd_rc r p m ≤ m
  | 0 => Nat.le_refl 0
  | m + 1 => by
    have := pd_rc_le r p m
    simp only [pd_rc]
    by_cases h : r m = p
    · rw [if_pos h]; omega
    · rw [if_neg h]; omega
theorem pd_sm_bd {f : Nat → Nat} {B : Nat} : ∀ {m : Nat}, (∀ k, k < m → f k ≤ B) → pd_sm f m ≤ m * B
  | 0, _ => by simp only [pd_sm]; omega
  | m + 1, h => by
    have h1 := pd_sm_bd (f := f) (B := B) (m := m) (fun k hk => h k (by omega))
    have h2 := h m (by omega)
    simp only [pd_sm]
    rw [Nat.succ_mul]
    omega
theorem pd_ct_bd {N : Nat} {S : pdS} (hv : pd_v N S) (p : Nat) : pd_ct S p ≤ 12800 := by
  have := pd_sm_bd (f := fun c => pd_rc (S (8 + c)) p (pd_pf (S 4 c))) (B := 400) (m := 32) (fun c hc => by
    have h1 := pd_rc_le (S (8 + c)) p (pd_pf (S 4 c))
    have h2 := (hv.1 c hc).1
    have h3 : pd_pf (S 4 c) ≤ 400 := by unfold pd_pf; omega
    omega)
  unfold pd_ct
  omega
theorem pr_cpI (f g : Nat → Nat) (a b k : Nat) : va_cpy (fun j => nI (f j)) (fun j => nI (g j)) a b k = fun j => nI (va_cpy f g a b k j) := by
  funext j
  unfold va_cpy
  by_cases h : b ≤ j ∧ j < b + k
  · rw [if_pos h, if_pos h]
  · rw [if_neg h, if_neg h]
theorem pr_cpBy (f g : Nat → Nat) (a b k : Nat) : va_cpy (fun j => sb_b (f j)) (fun j => sb_b (g j)) a b k = fun j => sb_b (va_cpy f g a b k j) := by
  funext j
  unfold va_cpy
  by_cases h : b ≤ j ∧ j < b + k
  · rw [if_pos h, if_pos h]
  · rw [if_neg h, if_neg h]
section PP2
variable {p : Program} {l : Launch} {e : Env} {R : Room} {s : State} {m : MethodId} {args : Array Value} {below : List Frame} {meth : Method} {c : Code} {H : Heap} {locs : List Loc} {cells slots : Nat} {Q : State → Prop}
variable {cc : ByteArray} {pc : Nat} {ls : Array Slot} {rest : List Value} {D : va_G} {A : Nat → Prop} {tys : List (ClassId × FieldType)} {H0 : Heap} {n : Nat} {ad : Nat → Nat} {cI cB cE : ClassId} {S : pdS} {own : String} {index : Nat}
theorem pr_cpB (hx : p.tables.exec = Jvm.exec) (hb : c.code = cc) (hml : c.maxLocals = ls.size) (hown : s.vm.findClass own = some m.cls) (hlink : (Cond.methodLink own index arraycopyName).before args s = true) (hnat : (Cond.native arraycopyName).before args s = true) (hstat : (Cond.static arraycopyName).before args s = true) (hini : (Cond.initialized "java/lang/System").before args s = true) (hK : va_K D pwCl tys s) (hP : va_P D pwCl (pw n ad cI cB cE S) H) (hD : va_D A (pw n ad cI cB cE S)) (hS : va_S A H0 H locs) {a b k : Nat} (hn : n ≤ 1024) (ha : a + k ≤ n * 64) (hb2 : b + k ≤ n * 64) (ht : tys[1]? = some (cB, .byte)) (hframes : 1 ≤ R.frames) (hlocals : (rest.map fun v => v.category).sum + (nativeFrameWords "java/lang/System" "arraycopy" 5 + 11) ≤ R.locals) (hdg : decode cc pc = .ok (.invokestatic index, 3)) (kk : ∀ (H1 : Heap) (locs1 : List Loc), va_P D pwCl (pw n ad cI cB cE (va_up S 0 (va_cpy (S 0) (S 0) a b k))) H1 → va_D A (pw n ad cI cB cE (va_up S 0 (va_cpy (S 0) (S 0) a b k))) → va_S A H0 H1 locs1 → W p l e R s m args below meth c H1 locs1 cells slots Q (F0 m (pc + 3) ls rest)) : W p l e R s m args below meth c H locs cells slots Q (F0 m pc ls (.int (nI k) :: .int (nI b) :: .ref (ad 4) :: .int (nI a) :: .ref (ad 4) :: rest)) := va_copyi hx hb hml hown hlink hnat hstat hini hK hP hD hS 4 4 1 1 pw_g4 pw_g4 ht ht rfl (nI_pos (by omega)) (nI_pos (by omega)) (nI_pos (by omega)) (by rw [nI_clamp (by omega), nI_clamp (by omega)]; exact ha) (by rw [nI_clamp (by omega), nI_clamp (by omega)]; exact hb2) (fun i _ => sb_fitB _) hframes hlocals hdg (fun H1 locs1 hP hD hS => by
    rw [nI_clamp (by omega), nI_clamp (by omega), nI_clamp (by omega), pr_cpBy, pw_bbyte] at hP hD
    exact kk H1 locs1 hP hD hS)
theorem pr_cpR (hx : p.tables.exec = Jvm.exec) (hb : c.code = cc) (hml : c.maxLocals = ls.size) (hown : s.vm.findClass own = some m.cls) (hlink : (Cond.methodLink own index arraycopyName).before args s = true) (hnat : (Cond.native arraycopyName).before args s = true) (hstat : (Cond.static arraycopyName).before args s = true) (hini : (Cond.initialized "java/lang/System").before args s = true) (hK : va_K D pwCl tys s) (hP : va_P D pwCl (pw n ad cI cB cE S) H) (hD : va_D A (pw n ad cI cB cE S)) (hS : va_S A H0 H locs) {fr to a b k : Nat} (hfr : fr < 32) (hto : to < 32) (ha : a + k ≤ 400) (hb2 : b + k ≤ 400) (ht : tys[0]? = some (cI, .int)) (hframes : 1 ≤ R.frames) (hlocals : (rest.map fun v => v.category).sum + (nativeFrameWords "java/lang/System" "arraycopy" 5 + 11) ≤ R.locals) (hdg : decode cc pc = .ok (.invokestatic index, 3)) (kk : ∀ (H1 : Heap) (locs1 : List Loc), va_P D pwCl (pw n ad cI cB cE (va_up S (8 + to) (va_cpy (S (8 + fr)) (S (8 + to)) a b k))) H1 → va_D A (pw n ad cI cB cE (va_up S (8 + to) (va_cpy (S (8 + fr)) (S (8 + to)) a b k))) → va_S A H0 H1 locs1 → W p l e R s m args below meth c H1 locs1 cells slots Q (F0 m (pc + 3) ls rest)) : W p l e R s m args below meth c H locs cells slots Q (F0 m pc ls (.int (nI k) :: .int (nI b) :: .ref (ad (55 + to)) :: .int (nI a) :: .ref (ad (55 + fr)) :: rest)) := va_copyi hx hb hml hown hlink hnat hstat hini hK hP hD hS (55 + fr) (55 + to) 0 0 (pw_gR hfr) (pw_gR hto) ht ht rfl (nI_pos (by omega)) (nI_pos (by omega)) (nI_pos (by omega)) (by rw [nI_clamp (by omega), nI_clamp (by omega)]; exact ha) (by rw [nI_clamp (by omega), nI_clamp (by omega)]; exact hb2) (fun i _ => rfl) hframes hlocals hdg (fun H1 locs1 hP hD hS => by
    rw [nI_clamp (by omega), nI_clamp (by omega), nI_clamp (by omega), pr_cpI, pw_brow hto] at hP hD
    exact kk H1 locs1 hP hD hS)
end PP2
end
section
/-! PURE, 10: what a crash of all files draws -/
def pd_kp (x : Int64) (sz lo : Nat) : Nat := if x.toBitVec.toNat / 2 ^ 61 = 0 then 0 else 1 + (x.toBitVec.toNat / 2 ^ 33 % 2 ^ 20) % (2 * (sz - lo) + 1)
theorem pd_ushr (x : Int64) {k : Nat} (hk : k < 64) : (x.toUInt64 >>> ((nI k).toInt64.toUInt64 &&& Int64.toUInt64 63)).toInt64 = lN (x.toBitVec.toNat / 2 ^ k) := by
  apply wb_inj
  apply BitVec.eq_of_getLsbD_eq
  intro i hi
  rw [pd_ushr_bit x hk, wb_tb, BitVec.getLsbD_ofNat, Nat.testBit_div_two_pow, BitVec.testBit_toNat, Nat.add_comm i]
  simp [hi]
theorem pd_lg0 (n : Nat) (h : n < 2 ^ 63) : lg_cmp (lN n) 0 = 0 ↔ n = 0 := by
  have e : (0 : Int64) = lN 0 := rfl
  rw [e]
  unfold lg_cmp
  by_cases h0 : n = 0
  · subst h0
    simp
  · have h1 : lN 0 < lN n := (pk_lLT (by omega) h).mpr (by omega)
    rw [if_pos h1]
    simp [h0]
theorem pd_lo20 {n : Nat} (h : n < 2 ^ 64) : (lN n &&& 1048575).toInt32 = nI (n % 2 ^ 20) := by
  have e : lN n &&& 1048575 = lN (n % 2 ^ 20) := by
    apply wb_inj
    rw [Int64.toBitVec_and, wb_tb, wb_tb]
    apply BitVec.eq_of_toNat_eq
    show (BitVec.ofNat 64 n &&& BitVec.ofNat 64 1048575).toNat = _
    rw [BitVec.toNat_and, BitVec.toNat_ofNat, BitVec.toNat_ofNat, BitVec.toNat_ofNat, Nat.mod_eq_of_lt h, Nat.mod_eq_of_lt (show 1048575 < 2 ^ 64 by decide), Nat.mod_eq_of_lt (Nat.lt_trans (Nat.mod_lt _ (by decide)) (by decide : 2 ^ 20 < 2 ^ 64))]
    exact Nat.and_two_pow_sub_one_eq_mod n 20
  rw [e, lN_i]
theorem pd_d61 (x : Int64) : x.toBitVec.toNat / 2 ^ 61 < 2 ^ 63 := by
  have := x.toBitVec.isLt
  omega
theorem pd_d33 (x : Int64) : x.toBitVec.toNat / 2 ^ 33 < 2 ^ 64 := by
  have := x.toBitVec.isLt
  omega
theorem pd_max1 {y : Nat} (h : 0 < y) (hy : y < 2 ^ 31) : (if nI 1 < nI y then nI y else nI 1) = nI y := by
  by_cases h1 : 1 < y
  · rw [if_pos ((nI_ltI (by decide) hy).mpr h1)]
  · rw [show y = 1 by omega]
    rw [if_neg (fun q => by have := (nI_ltI (by decide) (by decide)).mp q; omega)]
end
section
/-! PURE, 11: the last page exchanged; the tape written -/
theorem pd_xch_ok {n : Nat} {S : pdS} {f : Nat → Nat} {pg : Nat} {h : Nat → Nat} (ho : pd_ok n S f) (hu : 0 < S 7 0) (hpg : pg < n) (h2 : 1 < f pg) : S 2 (S 7 0 - 1) < n ∧ f (S 2 (S 7 0 - 1)) = 0 ∧ S 2 (S 7 0 - 1) ≠ pg ∧ pd_take S 1 pg = f pg ∧ pd_take S 7 0 < n ∧ pd_ok n (pd_leave (va_up (pd_take S) 0 h) pg) (va_up (va_up f (S 2 (S 7 0 - 1)) 1) pg (f pg - 1)) := by
  obtain ⟨h1, hf, hk⟩ := pd_take_ok ho hu
  have hne : S 2 (S 7 0 - 1) ≠ pg := fun q => by rw [q] at hf; omega
  have hk2 : pd_ok n (va_up (pd_take S) 0 h) (va_up f (S 2 (S 7 0 - 1)) 1) := pd_ok_eqv hk (va_up_ne _ _ (by decide)) (va_up_ne _ _ (by decide)) (by rw [va_up_ne _ _ (by decide)])
  obtain ⟨a1, a2, a3⟩ := pd_leave_ok hk2 hpg (by rw [va_up_ne _ _ (fun q => hne q.symm)]; omega)
  rw [va_up_ne _ _ (fun q => hne q.symm)] at a2 a3
  rw [va_up_ne _ _ (show (1 : Nat) ≠ 0 by decide)] at a2
  rw [va_up_ne _ _ (show (7 : Nat) ≠ 0 by decide)] at a1
  exact ⟨h1, hf, hne, a2, a1, a3⟩
theorem pd_xc_yes {n : Nat} {S T : pdS} {cc add : Nat} (hc : cc < 32) (hv : pd_v n S) (ho : pd_ok n S (pd_ct S)) (hu : 0 < S 7 0) (hcp : pd_cp S cc add) (e : T = pd_st (pd_st (pd_leave (va_up (pd_take S) 0 (va_cpy (S 0) (S 0) (64 * S (8 + cc) (S 4 cc / 64)) (64 * S 2 (S 7 0 - 1)) 64)) (S (8 + cc) (S 4 cc / 64))) 7 1 (S 7 1 + 1)) (8 + cc) (S 4 cc / 64) (S 2 (S 7 0 - 1))) : pd_xc n S T cc add ∧ T 7 0 + 1 = S 7 0 := by
  have hl : S 4 cc / 64 < pd_pf (S 4 cc) := by
    have := hcp.2.1
    unfold pd_pf
    omega
  have hpg := hv.2.1 cc _ hc hl
  obtain ⟨h1, hf, hne, ht1, ht7, hok⟩ := pd_xch_ok (h := va_cpy (S 0) (S 0) (64 * S (8 + cc) (S 4 cc / 64)) (64 * S 2 (S 7 0 - 1)) 64) ho hu hpg hcp.2.2
  generalize hh : va_cpy (S 0) (S 0) (64 * S (8 + cc) (S 4 cc / 64)) (64 * S 2 (S 7 0 - 1)) 64 = h at e hok
  have hcpct := hcp.2.2
  generalize hpe : S (8 + cc) (S 4 cc / 64) = pg at e hpg hok hcpct ht1 hne hh
  generalize hnw : S 2 (S 7 0 - 1) = nw at e h1 hf hne hok hh
  have hfl := pd_fr_leave (va_up (pd_take S) 0 h) pg
  have hft := pd_fr_take S
  have eb : ∀ b, b ≠ 0 → b ≠ 1 → b ≠ 2 → b ≠ 7 → pd_leave (va_up (pd_take S) 0 h) pg b = S b := fun b h0 h1 h2 h7 => by
    rw [hfl.1 b h1 h2 h7, va_up_ne _ _ h0, hft.1 b h1 h2 h7]
  have e7 : ∀ j, j ≠ 0 → pd_leave (va_up (pd_take S) 0 h) pg 7 j = S 7 j := fun j hj => by
    rw [hfl.2 j hj, va_up_ne _ _ (by decide), hft.2 j hj]
  have e0 : pd_leave (va_up (pd_take S) 0 h) pg 0 = h := by
    rw [hfl.1 0 (by decide) (by decide) (by decide), va_up_self]
  have e70 : pd_leave (va_up (pd_take S) 0 h) pg 7 0 = S 7 0 - 1 := by
    have hq : va_up (pd_take S) 0 h 1 pg = pd_take S 1 pg := by rw [va_up_ne _ _ (by decide)]
    unfold pd_leave
    rw [if_neg (by rw [hq, ht1]; omega), pd_bk _ (by decide), va_up_ne _ _ (by decide)]
    unfold pd_take
    rw [pd_bk _ (by decide), pd_self]
  have et : ∀ b, b ≠ 8 + cc → b ≠ 7 → T b = pd_leave (va_up (pd_take S) 0 h) pg b := fun b h1 h2 => by rw [e, pd_bk _ h1, pd_bk _ h2]
  have et7 : ∀ j, j ≠ 1 → T 7 j = pd_leave (va_up (pd_take S) 0 h) pg 7 j := fun j hj => by rw [e, pd_bk _ (by omega), pd_ne _ hj]
  have etr : T (8 + cc) = va_up (S (8 + cc)) (S 4 cc / 64) nw := by
    rw [e, pd_own, pd_bk _ (by omega), eb (8 + cc) (by omega) (by omega) (by omega) (by omega)]
  have e4 : T 4 = S 4 := by rw [et 4 (by omega) (by decide), eb 4 (by decide) (by decide) (by decide) (by decide)]
  have eo : ∀ d, d ≠ cc → d < 32 → T (8 + d) = S (8 + d) := fun d hd _ => by rw [et (8 + d) (by omega) (by omega), eb (8 + d) (by omega) (by omega) (by omega) (by omega)]
  have eT0 : T 0 = h := by rw [et 0 (by omega) (by decide), e0]
  refine ⟨⟨?_, e4, ?_, ?_, ?_, eo, ?_, ?_, Or.inr ⟨hcp, ?_, nw, h1, hf, etr, ?_⟩⟩, ?_⟩
  · rw [et 3 (by omega) (by decide), eb 3 (by decide) (by decide) (by decide) (by decide)]
  · rw [et 5 (by omega) (by decide), eb 5 (by decide) (by decide) (by decide) (by decide)]
  · rw [et 6 (by omega) (by decide), eb 6 (by decide) (by decide) (by decide) (by decide)]
  · rw [et7 2 (by decide), e7 2 (by decide)]
  · intro j
    rw [eT0, ← hh]
    unfold va_cpy
    by_cases q : 64 * nw ≤ j ∧ j < 64 * nw + 64
    · rw [if_pos q]
      exact hv.2.2.2.2.2 _
    · rw [if_neg q]
      exact hv.2.2.2.2.2 _
  · have h3 : pd_ok n T (va_up (va_up (pd_ct S) nw 1) pg (pd_ct S pg - 1)) := by
      rw [e]
      exact pd_ok_st (pd_ok_st hok (by decide) (by decide) (Or.inr (by decide))) (by omega) (by omega) (Or.inl (by omega))
    refine pd_ok_congr h3 (fun q _ => ?_)
    have hct : pd_ct T q = pd_ct (pd_st S (8 + cc) (S 4 cc / 64) nw) q := by
      refine pd_ct_congr (by rw [e4, pd_bk _ (by omega)]) (fun d hd k hk => ?_) q
      by_cases hdc : d = cc
      · subst hdc
        rw [etr, pd_own]
      · rw [eo d hdc hd, pd_bk _ (by omega)]
    have hput := pd_ct_put (v := nw) hc hl q
    rw [hpe, ← hct] at hput
    by_cases hqp : q = pg
    · subst hqp
      rw [if_pos rfl, if_neg hne] at hput
      rw [va_up_self]
      omega
    · rw [if_neg (fun z => hqp z.symm)] at hput
      rw [va_up_ne _ _ hqp]
      by_cases hqn : q = nw
      · subst hqn
        rw [if_pos rfl] at hput
        rw [va_up_self]
        omega
      · rw [if_neg (fun z => hqn z.symm)] at hput
        rw [va_up_ne _ _ hqn]
        omega
  · rw [e, pd_bk _ (by omega), pd_self]
  · rw [eT0, ← hh, hpe]
  · rw [et7 0 (by decide), e70]
    omega
theorem pd_st_up (S : pdS) (g : Nat → Nat) (a v : Nat) : pd_st (va_up S 0 g) 0 a v = va_up S 0 (va_up g a v) := by
  unfold pd_st
  rw [va_up_self, bx_uu]
theorem pd_wt_s (B r : Nat → Nat) (a : Nat) (tp : Nat → Nat) (m : Nat) : pd_wt B r a tp (m + 1) = va_up (pd_wt B r a tp m) (64 * r ((a + m) / 64) + (a + m) % 64) (tp m) := rfl
end
section
/-! ===== BEGIN words of one list among another's, by their places ===== -/
theorem goodIn_r {big : List Cond} (ws : List Cond) (ps : List Nat) (hp : ws = ps.filterMap (fun i => big[i]?)) (h : ws.all goodWord = true) : GoodIn big ws := by
  intro w hw
  have h1 := List.all_eq_true.mp h w hw
  rw [hp] at hw
  obtain ⟨i, -, hi⟩ := List.mem_filterMap.mp hw
  have hm : w ∈ big := by first | exact List.mem_of_getElem? hi | exact List.getElem?_mem hi
  exact ⟨hm, good_of_word h1⟩
theorem goodIn_app {big a b : List Cond} (ha : GoodIn big a) (hb : GoodIn big b) : GoodIn big (a ++ b) := fun w h => (List.mem_append.mp h).elim (ha w) (hb w)
theorem goodIn_ca {big a b : List Cond} {c : Cond} (ha : GoodIn big (c :: a)) (hb : GoodIn big b) : GoodIn big (c :: (a ++ b)) := fun w h => (List.mem_cons.mp h).elim (fun e => ha w (List.mem_cons.mpr (Or.inl e))) (fun h => (List.mem_append.mp h).elim (fun h => ha w (List.mem_cons.mpr (Or.inr h))) (hb w))
theorem goodIn_sub {big ws : List Cond} (hm : ∀ w ∈ ws, w ∈ big) (h : ws.all goodWord = true) : GoodIn big ws := fun w hw => ⟨hm w hw, good_of_word (List.all_eq_true.mp h w hw)⟩
/-! ===== END ===== -/

/-! ===== BEGIN exceptions that leave a method, and their catching by the caller (launches without stack traces) ===== -/
section VXA
/-! The laws vx_back, vx_callV, vx_callS, vx_callSW, vx_throw0, vx_throwS follow proofs of the library, with one case more: JvmDerived/Free/Laws.lean (Back.of_free), Shelf42/LK1.lean (callV, callS), Shelf/KitTraced.lean (throwNew0V, throwNewS). -/
/-- where a method has thrown q: the class by its name, the cell, what was written, the world -/
def vx_T (XC : String → State → State → Prop) (st : State) (q : Addr) (t : State) (mc ms : Nat) (free : Addr → Prop) : Prop :=
  ∃ (E : String) (ce : Cell) (L : List Loc), XC E st t ∧ t.heap[q]? = some ce ∧ ce.vm = .none ∧ st.vm.findClass E = some ce.cls ∧ st.WarmedH t.vm ∧ st.sameButNew ({ t with vm := st.vm } : State) L mc ms ∧ ∀ z ∈ L, free z.base
def vx_Q (Qc : Array Value → State → Outcome → State → Prop) (XC : String → State → State → Prop) (mc ms : Nat) (free : Addr → Prop) : Array Value → State → Outcome → State → Prop := fun a st o t =>
  (Qc a st o t ∧ ∃ L, FrameEnd st o t L mc ms ∧ ∀ q ∈ L, free q.base) ∨ ∃ q, o = .threw q ∧ vx_T XC st q t mc ms free
/-- a callee that returns or throws -/
def vx_Met (l : Launch) (y : MethodName) (ws : List Cond) (rm : Room) (Pc : Array Value → State → Prop) (Qc : Array Value → State → Outcome → State → Prop) (XC : String → State → State → Prop) (mc ms : Nat) (free : Addr → Prop) : Prop :=
  MetFree l y (headSpec ws rm) Pc (fun _ _ _ _ _ => True) (vx_Q Qc XC mc ms free)
def vx_Post (XC : String → State → State → Prop) (mc ms : Nat) (free : Addr → Prop) : Pt → Array Value → Addr → Pt → Prop := fun A a q B =>
  ∃ (g : JFrame) (mk : MethodId) (t : State) (L : List Loc) (E : String) (ce : Cell), B.U.heap = t.heap ∧ B.U.vm = t.vm ∧ XC E (A.U.calling g mk a) t ∧ t.heap[q]? = some ce ∧ ce.vm = .none ∧ A.U.vm.findClass E = some ce.cls ∧ B.locs = A.locs ++ L ∧ (∀ z ∈ L, free z.base) ∧ B.cells = A.cells + mc ∧ B.slots = A.slots + ms
def vx_Back (l : Launch) (R : Room) (p : Program) (e : Env) (below : List Frame) (s : State) (sargs : Array Value) (y : MethodName) (len W9 : Nat)
    (Pre : Pt → Array Value → Prop) (Post : Pt → Array Value → Option Value → Pt → Prop) (PostX : Pt → Array Value → Addr → Pt → Prop) : Prop :=
  ∀ (m : MethodId) (meth : Method) (c : Code) (A : Pt) (g : JFrame) (ig : Instr) (mk : MethodId) (a : Array Value),
    Stand p l e R s m sargs below meth c A.U A.locs A.cells A.slots → g.method = m → g.locals.size = c.maxLocals → decode c.code g.pc = .ok (ig, len) →
    2 * g.monitorRoom + (g.stack.map fun v => v.category).sum ≤ W9 → A.U.methodNamed? y = some mk → Pre A a →
    (∃ (v : Option Value) (B : Pt), Stand p l e R s m sargs below meth c B.U B.locs B.cells B.slots ∧ Post A a v B ∧
      Steps p.tables e below (doInvoke e (A.U.setTop g) [] mk a).1 (B.U.setTop { g with pc := g.pc + len, stack := v.toList ++ g.stack })) ∨
    (∃ (q : Addr) (B : Pt), Stand p l e R s m sargs below meth c B.U B.locs B.cells B.slots ∧ PostX A a q B ∧
      Steps p.tables e below (doInvoke e (A.U.setTop g) [] mk a).1 ((B.U.setTop g).pushFrame (.throwing q)))
section Payer
variable {l : Launch} {R : Room} {p : Program} {e : Env} {below : List Frame} {s : State} {sargs : Array Value} {y : MethodName} {len W9 : Nat}
theorem vx_back {ws : List Cond} {rm : Room} {Pc : Array Value → State → Prop} {Qc : Array Value → State → Outcome → State → Prop} {XC : String → State → State → Prop} {mc ms : Nat} {free : Addr → Prop} {bytes : ByteArray} {maxL : Nat} {ret : Option FieldType}
    (hM : vx_Met l y ws rm Pc Qc XC mc ms free) (hblind : FrameBlind Pc) (hrc : rm.cells = mc) (hrs : rm.slots = ms)
    (hframes : rm.frames + 1 ≤ R.frames) (hlocals : W9 + (maxL + 11) + rm.locals ≤ R.locals)
    (hws : ∀ w ∈ ws, ∀ a' U, s.WarmedH U.vm → w.before a' U = true) (hcode : Cond.code y bytes maxL ret ∈ ws) (hinit : ∀ a' U, s.WarmedH U.vm → (Cond.initialized y.cls).before a' U = true) :
    vx_Back l R p e below s sargs y len W9 (PreOf R mc ms Pc) (PostOf Qc mc ms free) (vx_Post XC mc ms free) := by
  intro m meth c A g ig mk a X hg hsize hdg hW hn hp
  have h1 : (headSpec ws rm).pre.before a A.U = true := atoms_intro fun w hw => hws w hw _ _ X.warmed
  have h2 : (Cond.code y bytes maxL ret).before a A.U = true := hws _ hcode _ _ X.warmed
  have h3 : (Cond.initialized y.cls).before a A.U = true := hinit _ _ X.warmed
  have h4 : A.cells + (headSpec ws rm).room.cells ≤ R.cells := by rw [show (headSpec ws rm).room.cells = mc from hrc]; exact hp.1
  have h5 : A.slots + (headSpec ws rm).room.slots ≤ R.slots := by rw [show (headSpec ws rm).room.slots = ms from hrs]; exact hp.2.1
  have hPc : Pc a (A.U.calling g mk a) := hblind _ _ _ _ hp.2.2
  obtain ⟨U, Ls, c0, s0⟩ := A
  dsimp only [Pt.U, Pt.locs, Pt.cells, Pt.slots] at h1 h2 h3 h4 h5 X hn hPc ⊢
  obtain ⟨methY, cY, hmY, hcY, -, hlY, -, -, -, -⟩ := Cond.code_spec hn h2
  obtain ⟨kY, hkY, -⟩ := className_of_methodNamed hn
  have hinitY : kY.init = .initialized := Cond.initialized_spec (findClass_of_methodNamed hn) hkY h3
  have h : At U g.method c below := by rw [hg]; exact X.here
  have hlocals9 : W9 + (maxL + 11) + (headSpec ws rm).room.locals ≤ R.locals := hlocals
  have happ : (headSpec ws rm).appliesLoose y e.platform (U.calling g mk a) = true :=
    Spec.appliesLoose_calling (g := g) h hdg hn hkY hinitY
      (X.room_calling (g := g) (R' := (headSpec ws rm).room) hsize hmY hcY hframes (by rw [hlY]; omega) h4 h5) h1
  obtain ⟨mid, hmid⟩ := h.above
  have hfr : (U.setTop g).frames = (.java g :: mid) ++ below := by rw [State.frames_setTop' g h.top, hmid]; rfl
  obtain ⟨o, s₂, hsteps, -, hend, hq⟩ := Steps.callFree hM p X.admits X.cas X.clock (acts := []) hfr happ hPc trivial
  have hq' : vx_Q Qc XC mc ms free a (U.calling g mk a) o s₂ := hq
  rw [State.frames_setTop' g h.top] at hend
  obtain ⟨g₀, hg0⟩ := Option.isSome_iff_exists.mp h.top
  obtain ⟨r, hr⟩ := State.topJava?_eq_some.mp hg0
  have hr' : (({ U with heap := s₂.heap, slotsUsed := s₂.slotsUsed } : State).setVm s₂.vm).frames = .java g₀ :: r := hr
  rcases hq' with ⟨hqc, L, hfe, hL⟩ | ⟨q, rfl, E, ce, L, hx, hce, hcv, hcl, hW₂, hsm, hL⟩
  · obtain ⟨⟨v, rfl⟩, hW₂, e2, q2, q3, q4, q5, q6⟩ := id hfe
    have e3 : s₂ = ({ (U.calling g mk a).setFrames s₂.frames with heap := s₂.heap, slotsUsed := s₂.slotsUsed } : State).setVm s₂.vm := by
      have : s₂ = ({ s₂ with vm := (U.calling g mk a).vm } : State).setVm s₂.vm := rfl
      rw [e2] at this
      exact this
    obtain ⟨c₂, i₂, len₂, hc₂, hd₂, hf₂⟩ := hend
    have hW' : U.WarmedH s₂.vm := hW₂
    have hcc : c₂ = c := by
      have h1 : s₂.code? g.method = U.code? g.method := by
        rw [State.code?_eq, State.code?_eq, hW'.alike.method?]
      exact Option.some.inj (hc₂.symm.trans (h1.trans h.code))
    subst hcc
    have hlen : len₂ = len := by rw [hdg] at hd₂; cases hd₂; rfl
    subst hlen
    have hs₂ : s₂ = (({ U with heap := s₂.heap, slotsUsed := s₂.slotsUsed } : State).setVm s₂.vm).setTop { g with pc := g.pc + len₂, stack := v.toList ++ g.stack } := by
      refine e3.trans ?_
      rw [hf₂, State.calling_eq h.top, State.setFrames_setFrames, State.setTop_of_frames _ hr', hr]
      rfl
    have hsame : U.sameButNew ({ U with heap := s₂.heap, slotsUsed := s₂.slotsUsed } : State) L mc ms := by
      refine ⟨?_, q2, q3, q4, q5, q6⟩
      obtain ⟨t, ht, -⟩ := State.frames_cons hr
      show ({ U with heap := s₂.heap, slotsUsed := s₂.slotsUsed } : State) = { U.setFrames U.frames with heap := s₂.heap, slotsUsed := s₂.slotsUsed }
      rw [State.setFrames_self ht]
    subst hg
    refine Or.inl ⟨v, ⟨(({ U with heap := s₂.heap, slotsUsed := s₂.slotsUsed } : State).setVm s₂.vm), Ls ++ L, c0 + mc, s0 + ms⟩,
      ⟨X.admits, X.cas, X.clock, X.frames, X.room, X.hears, X.method, X.code, (X.here.setHeapUsed s₂.heap s₂.slotsUsed).setVm hW'.alike, X.tail, State.WarmedH.trans X.warmed hW', X.limits, X.bytes, X.same.trans (hsame.setVm s.vm)⟩,
      ⟨g, mk, s₂, L, rfl, rfl, hqc, rfl, hL, rfl, rfl⟩, ?_⟩
    show Steps p.tables e below _ ((({ U with heap := s₂.heap, slotsUsed := s₂.slotsUsed } : State).setVm s₂.vm).setTop { g with pc := g.pc + len₂, stack := v.toList ++ g.stack })
    rw [← hs₂]
    exact hsteps
  · obtain ⟨e2, q2, q3, q4, q5, q6⟩ := id hsm
    have e3 : s₂ = ({ (U.calling g mk a).setFrames s₂.frames with heap := s₂.heap, slotsUsed := s₂.slotsUsed } : State).setVm s₂.vm := by
      have : s₂ = ({ s₂ with vm := (U.calling g mk a).vm } : State).setVm s₂.vm := rfl
      rw [e2] at this
      exact this
    have hf₂ : s₂.frames = .throwing q :: .java g :: U.frames.tail := hend
    have hW' : U.WarmedH s₂.vm := hW₂
    have hs₂ : s₂ = ((({ U with heap := s₂.heap, slotsUsed := s₂.slotsUsed } : State).setVm s₂.vm).setTop g).pushFrame (.throwing q) := by
      refine e3.trans ?_
      rw [hf₂, State.calling_eq h.top, State.setFrames_setFrames, State.pushFrame, State.frames_setTop _ hr', State.setTop_of_frames _ hr', State.setFrames_setFrames, hr]
      rfl
    have hsame : U.sameButNew ({ U with heap := s₂.heap, slotsUsed := s₂.slotsUsed } : State) L mc ms := by
      refine ⟨?_, q2, q3, q4, q5, q6⟩
      obtain ⟨t, ht, -⟩ := State.frames_cons hr
      show ({ U with heap := s₂.heap, slotsUsed := s₂.slotsUsed } : State) = { U.setFrames U.frames with heap := s₂.heap, slotsUsed := s₂.slotsUsed }
      rw [State.setFrames_self ht]
    subst hg
    refine Or.inr ⟨q, ⟨(({ U with heap := s₂.heap, slotsUsed := s₂.slotsUsed } : State).setVm s₂.vm), Ls ++ L, c0 + mc, s0 + ms⟩,
      ⟨X.admits, X.cas, X.clock, X.frames, X.room, X.hears, X.method, X.code, (X.here.setHeapUsed s₂.heap s₂.slotsUsed).setVm hW'.alike, X.tail, State.WarmedH.trans X.warmed hW', X.limits, X.bytes, X.same.trans (hsame.setVm s.vm)⟩,
      ⟨g, mk, s₂, L, E, ce, rfl, rfl, hx, hce, hcv, hcl, rfl, hL, rfl, rfl⟩, ?_⟩
    show Steps p.tables e below _ (((({ U with heap := s₂.heap, slotsUsed := s₂.slotsUsed } : State).setVm s₂.vm).setTop g).pushFrame (.throwing q))
    rw [← hs₂]
    exact hsteps
end Payer
section Calls
variable {p : Program} {l : Launch} {e : Env} {R : Room} {s : State} {m : MethodId} {args : Array Value} {below : List Frame} {meth : Method} {c : Code} {T : State} {locs : List Loc} {cells slots : Nat}
theorem vx_callV (X : Stand p l e R s m args below meth c T locs cells slots) (hexec : p.tables.exec = Jvm.exec) {own C : String} {index : Nat} {y : MethodName} {bytes : ByteArray} {maxL : Nat} {ret : Option FieldType}
    (hown : s.vm.findClass own = some m.cls) (hlink : (Cond.methodLink own index y).before args s = true) (hinst : (Cond.instanceMethod y).before args s = true) (hsel : (Cond.selects C y y).before args s = true)
    (hcode : (Cond.code y bytes maxL ret).before args s = true) (hy : y.cls ≠ "java/lang/invoke/MethodHandle" ∧ y.cls ≠ "java/lang/invoke/VarHandle")
    {W9 : Nat} {Pre : Pt → Array Value → Prop} {Post : Pt → Array Value → Option Value → Pt → Prop} {PostX : Pt → Array Value → Addr → Pt → Prop} (hK : vx_Back l R p e below s args y 3 W9 Pre Post PostX)
    {b : Addr} {cellB : Cell} (hcell : T.heap[b]? = some cellB) (hobj : cellB.vm.isStatics = false) (hcls : s.vm.findClass C = some cellB.cls)
    {g : JFrame} (hg : g.method = m) (hsize : g.locals.size = c.maxLocals) {argsL rest : List Value} (hlen : ∀ sig, parseMethodDescriptor y.desc = some sig → argsL.length = sig.parameters.length)
    (hstack : g.stack = argsL.reverse ++ .ref b :: rest) (hW : 2 * g.monitorRoom + (rest.map fun v => v.category).sum ≤ W9) (hdg : decode c.code g.pc = .ok (.invokevirtual index, 3))
    (hpre : ∀ vm₁, s.WarmedH vm₁ → Pre ⟨T.setVm vm₁, locs, cells, slots⟩ (Value.ref b :: argsL).toArray) :
    (∃ (v : Option Value) (vm₁ : Vm) (B : Pt), s.WarmedH vm₁ ∧ Stand p l e R s m args below meth c B.U B.locs B.cells B.slots ∧ Post ⟨T.setVm vm₁, locs, cells, slots⟩ (Value.ref b :: argsL).toArray v B ∧
      ∀ target, Steps p.tables e below (B.U.setTop { g with pc := g.pc + 3, stack := v.toList ++ rest }) target → Steps p.tables e below (T.setTop g) target) ∨
    (∃ (q : Addr) (vm₁ : Vm) (B : Pt), s.WarmedH vm₁ ∧ Stand p l e R s m args below meth c B.U B.locs B.cells B.slots ∧ PostX ⟨T.setVm vm₁, locs, cells, slots⟩ (Value.ref b :: argsL).toArray q B ∧
      Steps p.tables e below (T.setTop g) ((B.U.setTop { g with stack := rest }).pushFrame (.throwing q))) := by
  obtain ⟨mk, methM, hnamed, hmethM, hstM, habM⟩ := Cond.instanceMethod_spec hinst
  obtain ⟨methM', cM, hmethM', -, -, -, -, -, -, hsigM⟩ := Cond.code_spec hnamed hcode
  cases hmethM.symm.trans hmethM'
  obtain ⟨c2, r2, m2, q1, q2, q3, q4, kP, hkP, hkPi⟩ := Cond.selects_spec hsel
  cases hcls.symm.trans q1
  cases (State.methodFound?_of_named hnamed hy).symm.trans q2
  cases hnamed.symm.trans q3
  have hselP : selectMethod e.platform s.vm cellB.cls mk = .method mk := by rw [Launch.admits_selectMethod X.admits]; exact q4
  obtain ⟨vm₁, X₁, hstep₁⟩ := X.invokevirtual hexec hown hlink hnamed hmethM hstM hkP hkPi hy (a := b) (cell := cellB) hcell
    (fun z h => by rw [h] at hobj; cases hobj) hselP hmethM habM hkP hkPi (g := g) hg (argsL := argsL) (rest := rest) (hlen _ hsigM) hstack hdg
  rcases hK m meth c ⟨T.setVm vm₁, locs, cells, slots⟩ { g with stack := rest } (.invokevirtual index) mk (Value.ref b :: argsL).toArray X₁ hg hsize hdg hW (X₁.named hnamed) (hpre vm₁ X₁.warmed) with ⟨v, B, X', hpost, hsteps⟩ | ⟨q, B, X', hpost, hsteps⟩
  · exact Or.inl ⟨v, vm₁, B, X₁.warmed, X', hpost, fun target h => hstep₁ _ fun acts => by rw [doInvoke_state]; exact hsteps.trans h⟩
  · exact Or.inr ⟨q, vm₁, B, X₁.warmed, X', hpost, hstep₁ _ fun acts => by rw [doInvoke_state]; exact hsteps⟩
theorem vx_callS (X : Stand p l e R s m args below meth c T locs cells slots) (hexec : p.tables.exec = Jvm.exec) {own : String} {index : Nat} {y : MethodName} {bytes : ByteArray} {maxL : Nat} {ret : Option FieldType}
    (hown : s.vm.findClass own = some m.cls) (hlink : (Cond.methodLink own index y).before args s = true) (hstat : (Cond.static y).before args s = true) (hinit : (Cond.initialized y.cls).before args s = true)
    (hcode : (Cond.code y bytes maxL ret).before args s = true) (hy : y.cls ≠ "java/lang/invoke/MethodHandle" ∧ y.cls ≠ "java/lang/invoke/VarHandle")
    {W9 : Nat} {Pre : Pt → Array Value → Prop} {Post : Pt → Array Value → Option Value → Pt → Prop} {PostX : Pt → Array Value → Addr → Pt → Prop} (hK : vx_Back l R p e below s args y 3 W9 Pre Post PostX)
    {g : JFrame} (hg : g.method = m) (hsize : g.locals.size = c.maxLocals) {argsL rest : List Value} (hlen : ∀ sig, parseMethodDescriptor y.desc = some sig → argsL.length = sig.parameters.length)
    (hstack : g.stack = argsL.reverse ++ rest) (hW : 2 * g.monitorRoom + (rest.map fun v => v.category).sum ≤ W9) (hdg : decode c.code g.pc = .ok (.invokestatic index, 3))
    (hpre : ∀ vm₁, s.WarmedH vm₁ → Pre ⟨T.setVm vm₁, locs, cells, slots⟩ argsL.toArray) :
    (∃ (v : Option Value) (vm₁ : Vm) (B : Pt), s.WarmedH vm₁ ∧ Stand p l e R s m args below meth c B.U B.locs B.cells B.slots ∧ Post ⟨T.setVm vm₁, locs, cells, slots⟩ argsL.toArray v B ∧
      ∀ target, Steps p.tables e below (B.U.setTop { g with pc := g.pc + 3, stack := v.toList ++ rest }) target → Steps p.tables e below (T.setTop g) target) ∨
    (∃ (q : Addr) (vm₁ : Vm) (B : Pt), s.WarmedH vm₁ ∧ Stand p l e R s m args below meth c B.U B.locs B.cells B.slots ∧ PostX ⟨T.setVm vm₁, locs, cells, slots⟩ argsL.toArray q B ∧
      Steps p.tables e below (T.setTop g) ((B.U.setTop { g with stack := rest }).pushFrame (.throwing q))) := by
  obtain ⟨mk, hnamed⟩ := Cond.code_named hcode
  obtain ⟨methM, cM, hmethM, -, -, -, -, -, -, hsigM⟩ := Cond.code_spec hnamed hcode
  have hstatic : methM.isStatic = true := Cond.static_spec hnamed hmethM hstat
  obtain ⟨kP, hkP, -⟩ := className_of_methodNamed hnamed
  have hinitP : kP.init = .initialized := Cond.initialized_spec (findClass_of_methodNamed hnamed) hkP hinit
  obtain ⟨vm₁, X₁, hstep₁⟩ := X.invokestatic hexec hown hlink hnamed hmethM hstatic hkP hinitP hy (g := g) hg (argsL := argsL) (rest := rest) (hlen _ hsigM) hstack hdg
  rcases hK m meth c ⟨T.setVm vm₁, locs, cells, slots⟩ { g with stack := rest } (.invokestatic index) mk argsL.toArray X₁ hg hsize hdg hW (X₁.named hnamed) (hpre vm₁ X₁.warmed) with ⟨v, B, X', hpost, hsteps⟩ | ⟨q, B, X', hpost, hsteps⟩
  · exact Or.inl ⟨v, vm₁, B, X₁.warmed, X', hpost, fun target h => hstep₁ _ fun acts => by rw [doInvoke_state]; exact hsteps.trans h⟩
  · exact Or.inr ⟨q, vm₁, B, X₁.warmed, X', hpost, hstep₁ _ fun acts => by rw [doInvoke_state]; exact hsteps⟩
end Calls
theorem vx_cls {s : State} {T : State} {vm₁ : Vm} {E : String} {k : ClassId} (hW : s.WarmedH vm₁) (h : (T.setVm vm₁).vm.findClass E = some k) : s.vm.findClass E = some k := by
  have h1 : vm₁.findClass E = some k := h
  rw [hW.alike.findClass] at h1
  exact h1
/-- the method's frame g, with q thrown over it -/
def vx_W (p : Program) (l : Launch) (e : Env) (R : Room) (s : State) (m : MethodId) (args : Array Value) (below : List Frame) (meth : Method) (c : Code) (H : Heap) (locs : List Loc) (cells slots : Nat) (Q : State → Prop) (g : JFrame) (q : Addr) : Prop :=
  ∀ T : State, T.heap = H → Stand p l e R s m args below meth c T locs cells slots → ∃ t, Steps p.tables e below ((T.setTop g).pushFrame (.throwing q)) t ∧ Q t
def vx_Run (p : Program) (l : Launch) (e : Env) (R : Room) (s : State) (m : MethodId) (args : Array Value) (below : List Frame) (meth : Method) (c : Code) (H : Heap) (locs : List Loc) (cells slots mc ms : Nat) (g : JFrame) (rest : List Value) (Qa : State → Outcome → State → Prop) (XC : String → State → State → Prop) (free : Addr → Prop) : Prop :=
  ∀ T : State, T.heap = H → Stand p l e R s m args below meth c T locs cells slots →
    (∃ (v : Option Value) (st₀ t T' : State) (L : List Loc), st₀.heap = H ∧ Stand p l e R s m args below meth c T' (locs ++ L) (cells + mc) (slots + ms) ∧ (∀ q ∈ L, free q.base) ∧ T'.heap = t.heap ∧ T'.vm = t.vm ∧ Qa st₀ (.returned v) t ∧
      Goes p e below T g T' { g with pc := g.pc + 3, stack := v.toList ++ rest }) ∨
    (∃ (q : Addr) (st₀ t T' : State) (L : List Loc) (E : String) (ce : Cell), st₀.heap = H ∧ Stand p l e R s m args below meth c T' (locs ++ L) (cells + mc) (slots + ms) ∧ (∀ z ∈ L, free z.base) ∧ T'.heap = t.heap ∧ T'.vm = t.vm ∧ XC E st₀ t ∧ t.heap[q]? = some ce ∧ ce.vm = .none ∧ s.vm.findClass E = some ce.cls ∧
      Steps p.tables e below (T.setTop g) ((T'.setTop { g with stack := rest }).pushFrame (.throwing q)))
def vx_X {S : Type} (px : S → Prop) (B : String → S → State → Prop) (A : Nat → Prop) : String → State → State → Prop := fun E st t => ∃ u : S, px u ∧ B E u t ∧ va_F A st t
section Runs
variable {p : Program} {l : Launch} {e : Env} {R : Room} {s : State} {m : MethodId} {args : Array Value} {below : List Frame} {meth : Method} {c : Code} {H : Heap} {locs : List Loc} {cells slots : Nat}
variable {y : MethodName} {bytes cc : ByteArray} {maxL nL mc ms n index : Nat} {ret : Option FieldType} {ws : List Cond} {rm : Room} {Pc : Array Value → State → Prop} {Qc : Array Value → State → Outcome → State → Prop} {XC : String → State → State → Prop} {free : Addr → Prop} {Ts : List Cond} {own C : String} {b : Addr} {As rest : List Value} {g : JFrame}
theorem vx_callBack (cb : CallB R s args own index y bytes maxL ret ws rm mc ms n) (hM : vx_Met l y ws rm Pc Qc XC mc ms free) (hbl : FrameBlind Pc) : vx_Back l R p e below s args y 3 8 (PreOf R mc ms Pc) (PostOf Qc mc ms free) (vx_Post XC mc ms free) := by
  obtain ⟨hrc, hrs, hfr, hlo, hws, hcw, -, hini, -⟩ := cb
  exact vx_back (bytes := bytes) (maxL := maxL) (ret := ret) hM hbl hrc hrs hfr hlo hws hcw (fun a' U hW => word_at hW (Or.inl (by first | rfl | simp [Cond.onTables, Cond.keeps, Cond.steady])) hini)
theorem vx_runV (S : CallFix p m c cc nL s args Ts own) (hM : vx_Met l y ws rm Pc Qc XC mc ms free) (cw : CallW R s args own C index y bytes maxL ret ws rm mc ms n) (hp : PreV s H C b Pc As)
    (hg : g.method = m) (hn : As.length = n) (hsize : g.locals.size = nL) (hstack : g.stack = As.reverse ++ .ref b :: rest) (hW : 2 * g.monitorRoom + (rest.map fun v => v.category).sum ≤ 8) (hdg : decode cc g.pc = .ok (.invokevirtual index, 3)) (hf : cells + mc ≤ R.cells ∧ slots + ms ≤ R.slots) :
    vx_Run p l e R s m args below meth c H locs cells slots mc ms g rest (Qc (Value.ref b :: As).toArray) XC free := by
  have hK : vx_Back l R p e below s args y 3 8 (PreOf R mc ms Pc) (PostOf Qc mc ms free) (vx_Post XC mc ms free) := vx_callBack cw.1 hM hp.1
  obtain ⟨⟨-, -, -, -, -, -, hcode, -, hy, hlen, hl⟩, hin, hse⟩ := cw
  obtain ⟨hx, hb, hml, ho, -⟩ := S
  obtain ⟨-, ⟨cellB, hcB, hoB, hclB⟩, hPc⟩ := hp
  intro T hT X
  rcases vx_callV X hx (C := C) (bytes := bytes) (maxL := maxL) (ret := ret) ho hl hin hse hcode hy hK (by rw [hT]; exact hcB) hoB hclB hg (hsize.trans hml.symm) (argsL := As) (rest := rest) (fun sig h => hn.trans (hlen sig h)) hstack hW (by rw [hb]; exact hdg)
    (fun vm₁ hW₁ => ⟨hf.1, hf.2, hPc (T.setVm vm₁) hT hW₁⟩) with ⟨v, vm₁, ⟨U', l2, c2, s2⟩, hW₁, X', ⟨g', mk, t, L, e1, e2, hq, h1, hL, h2, h3⟩, st⟩ | ⟨q, vm₁, ⟨U', l2, c2, s2⟩, hW₁, X', ⟨g', mk, t, L, E, ce, e1, e2, hq, hce, hcv, hcl, h1, hL, h2, h3⟩, st⟩
  · dsimp only [Pt.U, Pt.locs, Pt.cells, Pt.slots] at X' e1 e2 h1 h2 h3 st
    subst h1; subst h2; subst h3
    exact Or.inl ⟨v, (T.setVm vm₁).calling g' mk (Value.ref b :: As).toArray, t, U', L, hT, X', hL, e1, e2, hq, st⟩
  · dsimp only [Pt.U, Pt.locs, Pt.cells, Pt.slots] at X' e1 e2 h1 h2 h3 st hcl
    subst h1; subst h2; subst h3
    exact Or.inr ⟨q, (T.setVm vm₁).calling g' mk (Value.ref b :: As).toArray, t, U', L, E, ce, hT, X', hL, e1, e2, hq, hce, hcv, vx_cls hW₁ hcl, st⟩
theorem vx_runS (S : CallFix p m c cc nL s args Ts own) (hM : vx_Met l y ws rm Pc Qc XC mc ms free) (cw : CallB R s args own index y bytes maxL ret ws rm mc ms n ∧ (Cond.static y).before args s = true) (hp : PreS s H Pc As)
    (hg : g.method = m) (hn : As.length = n) (hsize : g.locals.size = nL) (hstack : g.stack = As.reverse ++ rest) (hW : 2 * g.monitorRoom + (rest.map fun v => v.category).sum ≤ 8) (hdg : decode cc g.pc = .ok (.invokestatic index, 3)) (hf : cells + mc ≤ R.cells ∧ slots + ms ≤ R.slots) :
    vx_Run p l e R s m args below meth c H locs cells slots mc ms g rest (Qc As.toArray) XC free := by
  have hK : vx_Back l R p e below s args y 3 8 (PreOf R mc ms Pc) (PostOf Qc mc ms free) (vx_Post XC mc ms free) := vx_callBack cw.1 hM hp.1
  obtain ⟨⟨-, -, -, -, -, -, hcode, hini, hy, hlen, hl⟩, hstt⟩ := cw
  obtain ⟨hx, hb, hml, ho, -⟩ := S
  intro T hT X
  rcases vx_callS X hx (bytes := bytes) (maxL := maxL) (ret := ret) ho hl hstt hini hcode hy hK hg (hsize.trans hml.symm) (argsL := As) (rest := rest) (fun sig h => hn.trans (hlen sig h)) hstack hW (by rw [hb]; exact hdg)
    (fun vm₁ hW₁ => ⟨hf.1, hf.2, hp.2 (T.setVm vm₁) hT hW₁⟩) with ⟨v, vm₁, ⟨U', l2, c2, s2⟩, hW₁, X', ⟨g', mk, t, L, e1, e2, hq, h1, hL, h2, h3⟩, st⟩ | ⟨q, vm₁, ⟨U', l2, c2, s2⟩, hW₁, X', ⟨g', mk, t, L, E, ce, e1, e2, hq, hce, hcv, hcl, h1, hL, h2, h3⟩, st⟩
  · dsimp only [Pt.U, Pt.locs, Pt.cells, Pt.slots] at X' e1 e2 h1 h2 h3 st
    subst h1; subst h2; subst h3
    exact Or.inl ⟨v, (T.setVm vm₁).calling g' mk As.toArray, t, U', L, hT, X', hL, e1, e2, hq, st⟩
  · dsimp only [Pt.U, Pt.locs, Pt.cells, Pt.slots] at X' e1 e2 h1 h2 h3 st hcl
    subst h1; subst h2; subst h3
    exact Or.inr ⟨q, (T.setVm vm₁).calling g' mk As.toArray, t, U', L, E, ce, hT, X', hL, e1, e2, hq, hce, hcv, vx_cls hW₁ hcl, st⟩
end Runs
section Rows
variable {p : Program} {l : Launch} {e : Env} {R : Room} {s : State} {m : MethodId} {args : Array Value} {below : List Frame} {meth : Method} {c : Code} {H : Heap} {locs : List Loc} {cells slots : Nat} {Q : State → Prop}
variable {mc ms : Nat} {free : Addr → Prop} {A0 A1 : Nat → Prop} {H0 : Heap} {a : Array Value} {pc : Nat} {ls : Array Slot} {st0 rest : List Value}
theorem vx_keep {st₀ t T' : State} {L : List Loc} (h0 : st₀.heap = H) (e1 : T'.heap = t.heap) (hS : va_S A0 H0 H locs) (hA : ∀ q, q < H.size → A1 q → A0 q) (hf : ∀ q, free q → A0 q) (hL : ∀ q ∈ L, free q.base) (hF : va_F A1 st₀ t) :
    H.size ≤ T'.heap.size ∧ (∀ q : Nat, q < H.size → ¬ A1 q → T'.heap[q]? = H[q]?) ∧ va_S A0 H0 T'.heap (locs ++ L) := by
  obtain ⟨hz, hk⟩ := hF
  rw [h0] at hz hk
  exact ⟨by rw [e1]; exact hz, fun q h1 h2 => by rw [e1]; exact hk q h1 h2,
    ⟨Nat.le_trans hS.1 (by rw [e1]; exact hz), fun q h1 h2 => by rw [e1, hk q (Nat.lt_of_lt_of_le h1 hS.1) (fun z => h2 (hA q (Nat.lt_of_lt_of_le h1 hS.1) z))]; exact hS.2.1 q h1 h2, fun q hq => by
      rcases List.mem_append.mp hq with h | h
      · exact hS.2.2 q h
      · exact hf _ (hL q h)⟩⟩
theorem vx_calli {S SX : Type} {post : Int32 → S → Prop} {px : SX → Prop} {B : S → State → Prop} {BX : String → SX → State → Prop} {AX : Nat → Prop} (hr : vx_Run p l e R s m args below meth c H locs cells slots mc ms (F0 m pc ls st0) rest (va_Qi post B A1 a) (vx_X px BX AX) free) (hS : va_S A0 H0 H locs) (hA : ∀ q, q < H.size → A1 q → A0 q) (hf : ∀ q, free q → A0 q) (hAX : ∀ q, q < H.size → AX q → A0 q)
    (kx : ∀ (E : String) (ce : Cell) (q9 : Addr) (u : SX) (t : State) (H1 : Heap) (locs1 : List Loc), t.heap = H1 → s.vm.Alike t.vm → px u → BX E u t → H.size ≤ H1.size → (∀ q : Nat, q < H.size → ¬ AX q → H1[q]? = H[q]?) → va_S A0 H0 H1 locs1 → H1[q9]? = some ce → ce.vm = .none → s.vm.findClass E = some ce.cls → vx_W p l e R s m args below meth c H1 locs1 (cells + mc) (slots + ms) Q (F0 m pc ls rest) q9)
    (kk : ∀ (r : Int32) (u : S) (t : State) (H1 : Heap) (locs1 : List Loc), t.heap = H1 → s.vm.Alike t.vm → post r u → B u t → H.size ≤ H1.size → (∀ q : Nat, q < H.size → ¬ A1 q → H1[q]? = H[q]?) → va_S A0 H0 H1 locs1 → W p l e R s m args below meth c H1 locs1 (cells + mc) (slots + ms) Q (F0 m (pc + 3) ls (.int r :: rest))) : W p l e R s m args below meth c H locs cells slots Q (F0 m pc ls st0) := by
  intro T hT X
  rcases hr T hT X with ⟨v, st₀, t, T', L, h0, X', hL, e1, e2, ⟨⟨r, u, hv, hp, hb⟩, hF⟩, st⟩ | ⟨q, st₀, t, T', L, E, ce, h0, X', hL, e1, e2, ⟨u, hp, hb, hF⟩, hce, hcv, hcl, st⟩
  · cases hv
    obtain ⟨k1, k2, k3⟩ := vx_keep h0 e1 hS hA hf hL hF
    obtain ⟨t2, a1, b1⟩ := kk r u t T'.heap (locs ++ L) e1.symm (by rw [← e2]; exact X'.warmed.alike) hp hb k1 k2 k3 T' rfl X'
    exact ⟨t2, st t2 a1, b1⟩
  · obtain ⟨k1, k2, k3⟩ := vx_keep h0 e1 hS hAX hf hL hF
    obtain ⟨t2, a1, b1⟩ := kx E ce q u t T'.heap (locs ++ L) e1.symm (by rw [← e2]; exact X'.warmed.alike) hp hb k1 k2 k3 (by rw [e1]; exact hce) hcv hcl T' rfl X'
    exact ⟨t2, st.trans a1, b1⟩
theorem vx_calll {S SX : Type} {post : Int64 → S → Prop} {px : SX → Prop} {B : S → State → Prop} {BX : String → SX → State → Prop} {AX : Nat → Prop} (hr : vx_Run p l e R s m args below meth c H locs cells slots mc ms (F0 m pc ls st0) rest (va_Ql post B A1 a) (vx_X px BX AX) free) (hS : va_S A0 H0 H locs) (hA : ∀ q, q < H.size → A1 q → A0 q) (hf : ∀ q, free q → A0 q) (hAX : ∀ q, q < H.size → AX q → A0 q)
    (kx : ∀ (E : String) (ce : Cell) (q9 : Addr) (u : SX) (t : State) (H1 : Heap) (locs1 : List Loc), t.heap = H1 → s.vm.Alike t.vm → px u → BX E u t → H.size ≤ H1.size → (∀ q : Nat, q < H.size → ¬ AX q → H1[q]? = H[q]?) → va_S A0 H0 H1 locs1 → H1[q9]? = some ce → ce.vm = .none → s.vm.findClass E = some ce.cls → vx_W p l e R s m args below meth c H1 locs1 (cells + mc) (slots + ms) Q (F0 m pc ls rest) q9)
    (kk : ∀ (r : Int64) (u : S) (t : State) (H1 : Heap) (locs1 : List Loc), t.heap = H1 → s.vm.Alike t.vm → post r u → B u t → H.size ≤ H1.size → (∀ q : Nat, q < H.size → ¬ A1 q → H1[q]? = H[q]?) → va_S A0 H0 H1 locs1 → W p l e R s m args below meth c H1 locs1 (cells + mc) (slots + ms) Q (F0 m (pc + 3) ls (.long r :: rest))) : W p l e R s m args below meth c H locs cells slots Q (F0 m pc ls st0) := by
  intro T hT X
  rcases hr T hT X with ⟨v, st₀, t, T', L, h0, X', hL, e1, e2, ⟨⟨r, u, hv, hp, hb⟩, hF⟩, st⟩ | ⟨q, st₀, t, T', L, E, ce, h0, X', hL, e1, e2, ⟨u, hp, hb, hF⟩, hce, hcv, hcl, st⟩
  · cases hv
    obtain ⟨k1, k2, k3⟩ := vx_keep h0 e1 hS hA hf hL hF
    obtain ⟨t2, a1, b1⟩ := kk r u t T'.heap (locs ++ L) e1.symm (by rw [← e2]; exact X'.warmed.alike) hp hb k1 k2 k3 T' rfl X'
    exact ⟨t2, st t2 a1, b1⟩
  · obtain ⟨k1, k2, k3⟩ := vx_keep h0 e1 hS hAX hf hL hF
    obtain ⟨t2, a1, b1⟩ := kx E ce q u t T'.heap (locs ++ L) e1.symm (by rw [← e2]; exact X'.warmed.alike) hp hb k1 k2 k3 (by rw [e1]; exact hce) hcv hcl T' rfl X'
    exact ⟨t2, st.trans a1, b1⟩
theorem vx_callf {S SX : Type} {post : UInt32 → S → Prop} {px : SX → Prop} {B : S → State → Prop} {BX : String → SX → State → Prop} {AX : Nat → Prop} (hr : vx_Run p l e R s m args below meth c H locs cells slots mc ms (F0 m pc ls st0) rest (va_Qf post B A1 a) (vx_X px BX AX) free) (hS : va_S A0 H0 H locs) (hA : ∀ q, q < H.size → A1 q → A0 q) (hf : ∀ q, free q → A0 q) (hAX : ∀ q, q < H.size → AX q → A0 q)
    (kx : ∀ (E : String) (ce : Cell) (q9 : Addr) (u : SX) (t : State) (H1 : Heap) (locs1 : List Loc), t.heap = H1 → s.vm.Alike t.vm → px u → BX E u t → H.size ≤ H1.size → (∀ q : Nat, q < H.size → ¬ AX q → H1[q]? = H[q]?) → va_S A0 H0 H1 locs1 → H1[q9]? = some ce → ce.vm = .none → s.vm.findClass E = some ce.cls → vx_W p l e R s m args below meth c H1 locs1 (cells + mc) (slots + ms) Q (F0 m pc ls rest) q9)
    (kk : ∀ (r : UInt32) (u : S) (t : State) (H1 : Heap) (locs1 : List Loc), t.heap = H1 → s.vm.Alike t.vm → post r u → B u t → H.size ≤ H1.size → (∀ q : Nat, q < H.size → ¬ A1 q → H1[q]? = H[q]?) → va_S A0 H0 H1 locs1 → W p l e R s m args below meth c H1 locs1 (cells + mc) (slots + ms) Q (F0 m (pc + 3) ls (.float r :: rest))) : W p l e R s m args below meth c H locs cells slots Q (F0 m pc ls st0) := by
  intro T hT X
  rcases hr T hT X with ⟨v, st₀, t, T', L, h0, X', hL, e1, e2, ⟨⟨r, u, hv, hp, hb⟩, hF⟩, st⟩ | ⟨q, st₀, t, T', L, E, ce, h0, X', hL, e1, e2, ⟨u, hp, hb, hF⟩, hce, hcv, hcl, st⟩
  · cases hv
    obtain ⟨k1, k2, k3⟩ := vx_keep h0 e1 hS hA hf hL hF
    obtain ⟨t2, a1, b1⟩ := kk r u t T'.heap (locs ++ L) e1.symm (by rw [← e2]; exact X'.warmed.alike) hp hb k1 k2 k3 T' rfl X'
    exact ⟨t2, st t2 a1, b1⟩
  · obtain ⟨k1, k2, k3⟩ := vx_keep h0 e1 hS hAX hf hL hF
    obtain ⟨t2, a1, b1⟩ := kx E ce q u t T'.heap (locs ++ L) e1.symm (by rw [← e2]; exact X'.warmed.alike) hp hb k1 k2 k3 (by rw [e1]; exact hce) hcv hcl T' rfl X'
    exact ⟨t2, st.trans a1, b1⟩
theorem vx_calld {S SX : Type} {post : UInt64 → S → Prop} {px : SX → Prop} {B : S → State → Prop} {BX : String → SX → State → Prop} {AX : Nat → Prop} (hr : vx_Run p l e R s m args below meth c H locs cells slots mc ms (F0 m pc ls st0) rest (va_Qd post B A1 a) (vx_X px BX AX) free) (hS : va_S A0 H0 H locs) (hA : ∀ q, q < H.size → A1 q → A0 q) (hf : ∀ q, free q → A0 q) (hAX : ∀ q, q < H.size → AX q → A0 q)
    (kx : ∀ (E : String) (ce : Cell) (q9 : Addr) (u : SX) (t : State) (H1 : Heap) (locs1 : List Loc), t.heap = H1 → s.vm.Alike t.vm → px u → BX E u t → H.size ≤ H1.size → (∀ q : Nat, q < H.size → ¬ AX q → H1[q]? = H[q]?) → va_S A0 H0 H1 locs1 → H1[q9]? = some ce → ce.vm = .none → s.vm.findClass E = some ce.cls → vx_W p l e R s m args below meth c H1 locs1 (cells + mc) (slots + ms) Q (F0 m pc ls rest) q9)
    (kk : ∀ (r : UInt64) (u : S) (t : State) (H1 : Heap) (locs1 : List Loc), t.heap = H1 → s.vm.Alike t.vm → post r u → B u t → H.size ≤ H1.size → (∀ q : Nat, q < H.size → ¬ A1 q → H1[q]? = H[q]?) → va_S A0 H0 H1 locs1 → W p l e R s m args below meth c H1 locs1 (cells + mc) (slots + ms) Q (F0 m (pc + 3) ls (.double r :: rest))) : W p l e R s m args below meth c H locs cells slots Q (F0 m pc ls st0) := by
  intro T hT X
  rcases hr T hT X with ⟨v, st₀, t, T', L, h0, X', hL, e1, e2, ⟨⟨r, u, hv, hp, hb⟩, hF⟩, st⟩ | ⟨q, st₀, t, T', L, E, ce, h0, X', hL, e1, e2, ⟨u, hp, hb, hF⟩, hce, hcv, hcl, st⟩
  · cases hv
    obtain ⟨k1, k2, k3⟩ := vx_keep h0 e1 hS hA hf hL hF
    obtain ⟨t2, a1, b1⟩ := kk r u t T'.heap (locs ++ L) e1.symm (by rw [← e2]; exact X'.warmed.alike) hp hb k1 k2 k3 T' rfl X'
    exact ⟨t2, st t2 a1, b1⟩
  · obtain ⟨k1, k2, k3⟩ := vx_keep h0 e1 hS hAX hf hL hF
    obtain ⟨t2, a1, b1⟩ := kx E ce q u t T'.heap (locs ++ L) e1.symm (by rw [← e2]; exact X'.warmed.alike) hp hb k1 k2 k3 (by rw [e1]; exact hce) hcv hcl T' rfl X'
    exact ⟨t2, st.trans a1, b1⟩
theorem vx_callv {S SX : Type} {post : S → Prop} {px : SX → Prop} {B : S → State → Prop} {BX : String → SX → State → Prop} {AX : Nat → Prop} (hr : vx_Run p l e R s m args below meth c H locs cells slots mc ms (F0 m pc ls st0) rest (va_Qv post B A1 a) (vx_X px BX AX) free) (hS : va_S A0 H0 H locs) (hA : ∀ q, q < H.size → A1 q → A0 q) (hf : ∀ q, free q → A0 q) (hAX : ∀ q, q < H.size → AX q → A0 q)
    (kx : ∀ (E : String) (ce : Cell) (q9 : Addr) (u : SX) (t : State) (H1 : Heap) (locs1 : List Loc), t.heap = H1 → s.vm.Alike t.vm → px u → BX E u t → H.size ≤ H1.size → (∀ q : Nat, q < H.size → ¬ AX q → H1[q]? = H[q]?) → va_S A0 H0 H1 locs1 → H1[q9]? = some ce → ce.vm = .none → s.vm.findClass E = some ce.cls → vx_W p l e R s m args below meth c H1 locs1 (cells + mc) (slots + ms) Q (F0 m pc ls rest) q9)
    (kk : ∀ (u : S) (t : State) (H1 : Heap) (locs1 : List Loc), t.heap = H1 → s.vm.Alike t.vm → post u → B u t → H.size ≤ H1.size → (∀ q : Nat, q < H.size → ¬ A1 q → H1[q]? = H[q]?) → va_S A0 H0 H1 locs1 → W p l e R s m args below meth c H1 locs1 (cells + mc) (slots + ms) Q (F0 m (pc + 3) ls (rest))) : W p l e R s m args below meth c H locs cells slots Q (F0 m pc ls st0) := by
  intro T hT X
  rcases hr T hT X with ⟨v, st₀, t, T', L, h0, X', hL, e1, e2, ⟨⟨u, hv, hp, hb⟩, hF⟩, st⟩ | ⟨q, st₀, t, T', L, E, ce, h0, X', hL, e1, e2, ⟨u, hp, hb, hF⟩, hce, hcv, hcl, st⟩
  · cases hv
    obtain ⟨k1, k2, k3⟩ := vx_keep h0 e1 hS hA hf hL hF
    obtain ⟨t2, a1, b1⟩ := kk u t T'.heap (locs ++ L) e1.symm (by rw [← e2]; exact X'.warmed.alike) hp hb k1 k2 k3 T' rfl X'
    exact ⟨t2, st t2 a1, b1⟩
  · obtain ⟨k1, k2, k3⟩ := vx_keep h0 e1 hS hAX hf hL hF
    obtain ⟨t2, a1, b1⟩ := kx E ce q u t T'.heap (locs ++ L) e1.symm (by rw [← e2]; exact X'.warmed.alike) hp hb k1 k2 k3 (by rw [e1]; exact hce) hcv hcl T' rfl X'
    exact ⟨t2, st.trans a1, b1⟩
/-- caught by the row x of this method's table; the rows ahead don't take it -/
theorem vx_catch {own name : String} {E : String} {ce : Cell} {q : Addr} (hown : s.vm.findClass own = some m.cls) (pre : List ExceptionTableEntry) (x : ExceptionTableEntry) (suf : List ExceptionTableEntry) (hsplit : c.exceptionTable.toList = pre ++ x :: suf)
    (hpass : ∀ z ∈ pre, covers z pc = false ∨ (z.catchType ≠ 0 ∧ ∃ nm : String, (Cond.classLink own z.catchType nm).before args s = true ∧ va_Nc E nm s)) (hx : covers x pc = true) (h0 : x.catchType ≠ 0)
    (hlink : (Cond.classLink own x.catchType name).before args s = true) (hcast : (Cond.castable E name).before args s = true) (hcell : H[q]? = some ce) (hv : ce.vm = .none) (hcl : s.vm.findClass E = some ce.cls)
    (kk : W p l e R s m args below meth c H locs cells slots Q (F0 m x.handlerPc ls [.ref q])) : vx_W p l e R s m args below meth c H locs cells slots Q (F0 m pc ls rest) q := by
  intro T hT X
  have hpl : e.platform.magicAccessors = ({} : Platform).magicAccessors := by rw [X.admits.platform]
  obtain ⟨c3, c4, hc3, hc4, hasg⟩ := Cond.castable_spec hcast
  cases Option.some.inj (hc3.symm.trans hcl)
  obtain ⟨c5, hc5, hcl5⟩ := Cond.classLink_spec hown hlink e.platform hpl
  cases Option.some.inj (hc4.symm.trans hc5)
  obtain ⟨vm', X', st⟩ := X.thenCaughtThrough q (g := F0 m pc ls rest) rfl (Steps.refl _) (by rw [hT]; exact hcell) (by rw [hv]; rfl) (by obtain ⟨k9, h9, -⟩ := Vm.findClass_spec hcl; exact ⟨k9, h9⟩) pre x suf hsplit
    (fun z hz => by
      rcases hpass z hz with h | ⟨hz0, nm, hl1, hn1⟩
      · exact Or.inl h
      · obtain ⟨c6, hc6, hcl6⟩ := Cond.classLink_spec hown hl1 e.platform hpl
        obtain ⟨a8, b8, h1, h2, h3⟩ := hn1
        cases Option.some.inj (h1.symm.trans hcl)
        cases Option.some.inj (h2.symm.trans hc6)
        exact Or.inr ⟨hz0, _, hcl6, h3⟩) hx (Or.inr ⟨h0, c4, hcl5, hasg⟩)
  obtain ⟨t, a1, b1⟩ := kk (T.setVm vm') hT X'
  exact ⟨t, st.trans a1, b1⟩
end Rows
section Ends
variable {p : Program} {l : Launch} {e : Env} {R : Room} {s : State} {m : MethodId} {args : Array Value} {below : List Frame} {meth : Method} {c : Code} {H : Heap} {locs : List Loc} {cells slots : Nat} {Q : State → Prop}
variable {mc ms : Nat} {free : Addr → Prop} {A0 A1 : Nat → Prop} {H0 : Heap} {a : Array Value} {ls : Array Slot} {st0 rest : List Value}
variable {Qc : Array Value → State → Outcome → State → Prop} {XC : String → State → State → Prop}
/-- what a body that may throw owes at its end -/
def vx_MQ (below : List Frame) (Qc : Array Value → State → Outcome → State → Prop) (XC : String → State → State → Prop) (a : Array Value) (s : State) (mc ms : Nat) (free : Addr → Prop) : State → Prop := fun t =>
  ∃ o, t.status = .running ∧ Ended t below o ∧ vx_Q Qc XC mc ms free a s o t
theorem vx_ret {g : JFrame} {mc ms : Nat} (k : W p l e R s m args below meth c H locs cells slots (MQ below Qc args s mc ms free) g) : W p l e R s m args below meth c H locs cells slots (vx_MQ below Qc XC args s mc ms free) g := by
  intro T hT X
  obtain ⟨t, a1, o, b1, b2, b3, b4⟩ := k T hT X
  exact ⟨t, a1, o, b1, b2, Or.inl ⟨b3, b4⟩⟩
/-- not caught here: it goes on to the caller -/
theorem vx_widen {g : JFrame} {q : Addr} {k n : Nat} (h1 : cells ≤ k) (h2 : slots ≤ n) (kk : vx_W p l e R s m args below meth c H locs k n Q g q) : vx_W p l e R s m args below meth c H locs cells slots Q g q := fun T hT X => kk T hT (stand_widen X h1 h2)
theorem vx_out {pc : Nat} {E : String} {ce : Cell} {q : Addr} {mc ms : Nat} (hout : ∀ x ∈ c.exceptionTable.toList, covers x pc = false) (hlocks : meth.locks = false) (hcell : H[q]? = some ce) (hv : ce.vm = .none) (hcl : s.vm.findClass E = some ce.cls)
    (hx : ∀ t : State, t.heap = H → s.vm.Alike t.vm → XC E s t) (hf : ∀ z ∈ locs, free z.base) (hc : cells ≤ mc) (hs : slots ≤ ms) :
    vx_W p l e R s m args below meth c H locs cells slots (vx_MQ below Qc XC args s mc ms free) (F0 m pc ls rest) q := by
  intro T hT X
  obtain ⟨st1, hrun, hend, hW, hsm⟩ := X.leaveThrown q (g := F0 m pc ls rest) rfl rfl rfl hout hlocks
  have hcell9 : (T.setFrames (.throwing q :: below)).heap[q]? = some ce := by
    show T.heap[q]? = some ce
    rw [hT]; exact hcell
  exact ⟨_, st1, .threw q, hrun, hend, Or.inr ⟨q, rfl, E, ce, locs, hx _ hT hW.alike, hcell9, hv, hcl, hW, hsm.mono hc hs, hf⟩⟩
theorem vx_frame {U : State} {k n : Nat} (h : s.sameButNew ({ U with vm := s.vm } : State) locs k n) : s.heap.size ≤ U.heap.size ∧ ∀ q : Nat, q < s.heap.size → (∀ z ∈ locs, z.base ≠ q) → U.heap[q]? = s.heap[q]? := by
  obtain ⟨-, h2, -, -, -, h6⟩ := h
  refine ⟨h2, fun q hq hz => ?_⟩
  obtain ⟨c9, e1, e2, e3, e4⟩ := h6 q _ (Array.getElem?_eq_getElem hq)
  have hs : c9.slots = (s.heap[q]).slots := Array.ext_getElem? fun i => e4 i fun hm => hz _ hm rfl
  have h9 : c9 = s.heap[q] := by
    rw [hs] at e2
    exact e2
  have e5 : U.heap[q]? = some c9 := e1
  rw [e5, h9, Array.getElem?_eq_getElem hq]
/-- the words of a throw but the four that speak of the heap -/
def vx_no (w : Cond) : Bool := decide (w ≠ .isRef (.static Bundle.tN "UNASSIGNED_STACK" Bundle.steD)) && decide (w ≠ .isRef (.static Bundle.tN "SUPPRESSED_SENTINEL" Bundle.listD)) && decide (w ≠ .laysStatic Bundle.tN "UNASSIGNED_STACK" Bundle.steD) && decide (w ≠ .laysStatic Bundle.tN "SUPPRESSED_SENTINEL" Bundle.listD)
def vx_at0 (own : String) (ic : Nat) (X : String) (names : List String) : List Cond := (Bundle.ownAtoms0 own ic X names).filter vx_no
def vx_atS (own : String) (ic : Nat) (X : String) (names : List String) : List Cond := (Bundle.ownAtoms own ic X names).filter vx_no
/-- a word that the tables alone decide, or a good one -/
def vx_ot (w : Cond) : Bool := w.onTables || goodWord w
theorem vx_ot_at {args a' : Array Value} {s U : State} {w : Cond} (hW : s.WarmedH U.vm) (hvm : s.vm = U.vm) (hg : vx_ot w = true) (h : w.before args s = true) : w.before a' U = true := by
  simp only [vx_ot, Bool.or_eq_true] at hg
  rcases hg with hg | hg
  · exact va_tabs hg hvm h
  · exact word_at hW (good_of_word hg) h
/-- a list's words: the good ones out of the method's own list, the others by premises of their own -/
theorem vx_hat {args : Array Value} {s : State} {L B : List Cond} (h1 : ∀ w ∈ L.filter goodWord, w.before args s = true) (h2 : ∀ w ∈ L.filter (fun w => !goodWord w), w ∈ B) (h3 : ∀ w ∈ B, w.before args s = true) : ∀ w ∈ L, w.before args s = true := by
  intro w hw
  by_cases g : goodWord w = true
  · exact h1 w (List.mem_filter.mpr ⟨hw, g⟩)
  · refine h3 w (h2 w (List.mem_filter.mpr ⟨hw, ?_⟩))
    show (!goodWord w) = true
    cases hgw : goodWord w
    · rfl
    · exact absurd hgw g
theorem vx_c {args : Array Value} {s : State} {w : Cond} {B : List Cond} (h : w.before args s = true) (t : ∀ w ∈ B, w.before args s = true) : ∀ w' ∈ w :: B, w'.before args s = true := fun w' h' => (List.mem_cons.mp h').elim (fun e => by rw [e]; exact h) (t w')
theorem vx_n {args : Array Value} {s : State} : ∀ w ∈ ([] : List Cond), w.before args s = true := fun _ h => nomatch h
theorem vx_own {args : Array Value} {s : State} {L : List Cond} (h1 : ∀ w ∈ L.filter vx_no, w.before args s = true)
    (hU : (Cond.isRef (.static Bundle.tN "UNASSIGNED_STACK" Bundle.steD)).before args s = true) (hN : (Cond.isRef (.static Bundle.tN "SUPPRESSED_SENTINEL" Bundle.listD)).before args s = true)
    (lU : (Cond.laysStatic Bundle.tN "UNASSIGNED_STACK" Bundle.steD).before args s = true) (lN : (Cond.laysStatic Bundle.tN "SUPPRESSED_SENTINEL" Bundle.listD).before args s = true) : ∀ w ∈ L, w.before args s = true := by
  intro w hw
  by_cases e1 : w = .isRef (.static Bundle.tN "UNASSIGNED_STACK" Bundle.steD)
  · rw [e1]; exact hU
  · by_cases e2 : w = .isRef (.static Bundle.tN "SUPPRESSED_SENTINEL" Bundle.listD)
    · rw [e2]; exact hN
    · by_cases e3 : w = .laysStatic Bundle.tN "UNASSIGNED_STACK" Bundle.steD
      · rw [e3]; exact lU
      · by_cases e4 : w = .laysStatic Bundle.tN "SUPPRESSED_SENTINEL" Bundle.listD
        · rw [e4]; exact lN
        · exact h1 w (List.mem_filter.mpr ⟨hw, by unfold vx_no; rw [decide_eq_true e1, decide_eq_true e2, decide_eq_true e3, decide_eq_true e4]; rfl⟩)
/-- where a static field lies, its class's statics cell in H -/
def vx_L (C n d : String) (A : Nat → Prop) (U : State) (H : Heap) : Prop := ∃ (c : ClassId) (k : Class) (i : Nat) (f : Field) (a : Nat) (cell : Cell), U.vm.findClass C = some c ∧ U.fieldFound? C n d = some (c, k, i, f) ∧ f.isStatic = true ∧ k.statics = some a ∧ H[a]? = some cell ∧ cell.vm.isStatics = true ∧ cell.cls = c ∧ f.slot < cell.slots.size ∧ k.staticTypes[f.slot]? = some f.type ∧ ¬ A a
theorem vx_L.moved {C n d : String} {A : Nat → Prop} {u U : State} {H : Heap} (hvm : u.vm.Alike U.vm) (h : vx_L C n d A u H) : vx_L C n d A U H := by
  obtain ⟨c, k, i, f, a, cell, h1, h2, h3, h4, h5, h6, h7, h8, h9, h10⟩ := h
  obtain ⟨k', hi', he⟩ := State.fieldFound?_setVm hvm h2
  exact ⟨c, k', i, f, a, cell, by rw [hvm.findClass]; exact h1, hi', h3, by rw [he]; exact h4, h5, h6, h7, h8, by rw [he]; exact h9, h10⟩
theorem vx_L.kept {C n d : String} {A : Nat → Prop} {U : State} {H H1 : Heap} (h : vx_L C n d A U H) (hq : ∀ a : Nat, a < H.size → ¬ A a → H1[a]? = H[a]?) : vx_L C n d A U H1 := by
  obtain ⟨c, k, i, f, a, cell, h1, h2, h3, h4, h5, h6, h7, h8, h9, h10⟩ := h
  exact ⟨c, k, i, f, a, cell, h1, h2, h3, h4, by rw [hq a (Array.getElem?_eq_some_iff.mp h5).1 h10]; exact h5, h6, h7, h8, h9, h10⟩
theorem vx_L.narrow {C n d : String} {A B : Nat → Prop} {U : State} {H : Heap} (h : vx_L C n d A U H) (hAB : ∀ q, B q → A q) : vx_L C n d B U H := by
  obtain ⟨c, k, i, f, a, cell, h1, h2, h3, h4, h5, h6, h7, h8, h9, h10⟩ := h
  exact ⟨c, k, i, f, a, cell, h1, h2, h3, h4, h5, h6, h7, h8, h9, fun z => h10 (hAB _ z)⟩
theorem vx_L.word {C n d : String} {A : Nat → Prop} {s : State} {args : Array Value} (h : vx_L C n d A s s.heap) : (Cond.laysStatic C n d).before args s = true := by
  obtain ⟨c, k, i, f, a, cell, h1, h2, h3, h4, h5, h6, h7, h8, h9, -⟩ := h
  show (Cond.laysStatic C n d).holds args s none s [] = true
  exact Cond.laysStatic_of h1 h2 h3 h4 h5 h6 h7 h8 h9
/-- .. and what it holds: null or some reference -/
def vx_Zq (C n d : String) (A : Nat → Prop) (U : State) (H : Heap) : Prop := va_Zq C n d A U H ∧ vx_L C n d A U H
theorem vx_Zq.moved {C n d : String} {A : Nat → Prop} {u U : State} {H : Heap} (hvm : u.vm.Alike U.vm) (h : vx_Zq C n d A u H) : vx_Zq C n d A U H := ⟨va_Zq.moved hvm h.1, vx_L.moved hvm h.2⟩
theorem vx_Zq.kept {C n d : String} {A : Nat → Prop} {U : State} {H H1 : Heap} (h : vx_Zq C n d A U H) (hq : ∀ a : Nat, a < H.size → ¬ A a → H1[a]? = H[a]?) : vx_Zq C n d A U H1 := ⟨va_Zq.kept h.1 hq, vx_L.kept h.2 hq⟩
theorem vx_Zq.narrow {C n d : String} {A B : Nat → Prop} {U : State} {H : Heap} (h : vx_Zq C n d A U H) (hAB : ∀ q, B q → A q) : vx_Zq C n d B U H := ⟨va_Zq.narrow h.1 hAB, vx_L.narrow h.2 hAB⟩
theorem vx_Zqof {args : Array Value} {s : State} {C n d : String} {A : Nat → Prop} (hl : (Cond.laysStatic C n d).before args s = true) (hini : (Cond.initialized C).before args s = true) (h : (Cond.isRef (.static C n d)).before args s = true) (hA : ∀ a : Nat, a < s.heap.size → ¬ A a) : vx_Zq C n d A s s.heap := by
  refine ⟨va_Zqof hl hini h hA, ?_⟩
  obtain ⟨c, k, i, f, a, cell, h1, h2, h3, h4, h5, h6, h7, h8, h9⟩ := Cond.laysStatic_spec hl
  exact ⟨c, k, i, f, a, cell, h1, h2, h3, h4, h5, h6, h7, h8, h9, hA a (Array.getElem?_eq_some_iff.mp h5).1⟩
theorem vx_isRef {C n d : String} {v : Value} {A : Nat → Prop} {s : State} {args : Array Value} (h : va_Z C n d v A s s.heap) (hv : v.isRef = true) : (Cond.isRef (.static C n d)).before args s = true := by
  obtain ⟨cf, kf, fi, f, a, cell, h1, h2, h3, h4, h5, h6, h7, -⟩ := h
  have he : (Term.static C n d).eval args s none [] s = some v := by
    simp [Term.eval, State.fieldNamed?, h1, h2, h4, h5, h6, h7]
  simp only [Cond.before, Cond.holds, Cond.value, he]
  cases v <;> simp_all [Value.isRef]
theorem vx_isRefq {C n d : String} {A : Nat → Prop} {s : State} {args : Array Value} (h : va_Zq C n d A s s.heap) : (Cond.isRef (.static C n d)).before args s = true := by
  rcases h with h | ⟨t, h⟩
  · exact vx_isRef h rfl
  · exact vx_isRef h rfl
/-- the same frame, seen from here: as if the method were called anew in this heap -/
theorem vx_rebase {T : State} (X : Stand p l e R s m args below meth c T locs cells slots) {R' : Room} (hf : R'.frames ≤ R.frames) (hl : R'.locals ≤ R.locals) (hc : cells + R'.cells ≤ R.cells) (hs : slots + R'.slots ≤ R.slots) :
    Stand p l e R' ((T.setVm s.vm).setFrames (.invoking m args :: below)) m args below meth c T [] 0 0 := by
  have htop : (T.setVm s.vm).topJava?.isSome := X.here.top
  have hF : ((T.setVm s.vm).setFrames (.invoking m args :: below)).frames = .invoking m args :: below := State.frames_setFrames _ (State.cur_lt_of_top htop)
  obtain ⟨g₀, hg0⟩ := Option.isSome_iff_exists.mp htop
  obtain ⟨r, hr⟩ := State.topJava?_eq_some.mp hg0
  have hl9 : e.platform.stackLimits (T.setVm s.vm).me = e.platform.stackLimits s.me := X.limits
  have hb9 : (T.setVm s.vm).me.stackBytes = s.me.stackBytes := X.bytes
  refine ⟨X.admits, X.cas, X.clock, hF, ?_, X.hears, X.method, X.code, X.here, X.tail, X.warmed, ?_, ?_, ?_⟩
  · have h := X.room
    have hU : ((T.setVm s.vm).setFrames (.invoking m args :: below)).localsInUse = s.localsInUse := by
      rw [State.localsInUse_invoking hF (meth := meth) (c := c) X.method X.code, State.localsInUse_invoking X.frames X.method X.code]
    simp only [State.hasRoom, Bool.and_eq_true, decide_eq_true_eq] at h ⊢
    obtain ⟨⟨⟨⟨h1, h2, h3, h4, h5, h6⟩, h7⟩, h8⟩, h9⟩ := h
    rw [X.frames, List.length_cons] at h2 h3
    have q1 := X.heapSize
    have q2 := X.used
    simp only [hF, hU, List.length_cons, State.stackLimits_setFrames, State.stackBytes_setFrames, hl9, hb9]
    refine ⟨⟨⟨⟨by omega, by omega, by omega, by omega, by omega, h6⟩, ?_⟩, ?_⟩, X.book⟩
    · show T.heap.size + R'.cells ≤ e.platform.maxCells
      omega
    · show T.slotsUsed + R'.slots ≤ e.platform.maxSlots
      omega
  · rw [State.stackLimits_setFrames]; rfl
  · rw [State.stackBytes_setFrames]; rfl
  · refine ⟨?_, Nat.le_refl _, Nat.le_refl _, ?_, ?_, fun a c9 h9 => ⟨c9, h9, rfl, rfl, fun _ _ => rfl⟩⟩
    · obtain ⟨t, ht, -⟩ := State.frames_cons hr
      show T.setVm s.vm = { ((T.setVm s.vm).setFrames (.invoking m args :: below)).setFrames (T.setVm s.vm).frames with heap := T.heap, slotsUsed := T.slotsUsed }
      rw [State.setFrames_setFrames, State.setFrames_self ht]
      rfl
    · show T.slotsUsed = T.slotsUsed + ((T.heap.toList.drop T.heap.size).map (·.slots.size)).sum
      rw [List.drop_eq_nil_of_le (Nat.le_of_eq Array.length_toList)]
      rfl
    · show ((T.heap.toList.drop T.heap.size).map (·.slots.size)).sum ≤ 0
      rw [List.drop_eq_nil_of_le (Nat.le_of_eq Array.length_toList)]
      exact Nat.le_refl _
/-- 'throw new E()': new; dup; invokespecial; athrow -/
theorem vx_throw0 {cc : ByteArray} {pc : Nat} (hexec : p.tables.exec = Jvm.exec) (hb : c.code = cc) (hl : l.stackTraces = false) {own cls : String} {names : List String} {ik ic mc ms : Nat} {A : Nat → Prop}
    (hown : s.vm.findClass own = some m.cls) (hcls : Bundle.fit cls = true) (hnames : ∀ n ∈ names, Bundle.fit n = true)
    (hk : (Cond.classLink own ik cls).before args s = true) (hini : (Cond.initialized cls).before args s = true) (hat : ∀ w ∈ vx_at0 own ic cls names, w.before args s = true)
    (hgood : ∀ w ∈ Cond.classLink own ik cls :: Cond.initialized cls :: vx_at0 own ic cls names, vx_ot w = true)
    (hU : vx_Zq Bundle.tN "UNASSIGNED_STACK" Bundle.steD A s s.heap) (hN : vx_Zq Bundle.tN "SUPPRESSED_SENTINEL" Bundle.listD A s s.heap) (hS : va_S A s.heap H locs) (hsize : ls.size = c.maxLocals)
    (d0 : decode cc pc = .ok (.new ik, 3)) (d3 : decode cc (pc + 3) = .ok (.dup, 1)) (d4 : decode cc (pc + 4) = .ok (.invokespecial ic, 3)) (d7 : decode cc (pc + 7) = .ok (.athrow, 1))
    (hout : ∀ x ∈ c.exceptionTable.toList, covers x (pc + 7) = false)
    (hRframes : names.length + 3 < R.frames) (hRlocals : (rest.map fun v => v.category).sum + (13 * (names.length + 1) + 42) ≤ R.locals) (hRcells : cells + 1 ≤ R.cells) (hRslots : slots + 6 ≤ R.slots) (hlocks : meth.locks = false)
    (hx : ∀ t : State, s.vm.Alike t.vm → H.size ≤ t.heap.size → (∀ q : Nat, q < H.size → t.heap[q]? = H[q]?) → XC cls s t)
    (hf : ∀ z ∈ locs, free z.base) (hc : cells + 1 ≤ mc) (hs : slots + 6 ≤ ms) :
    W p l e R s m args below meth c H locs cells slots (vx_MQ below Qc XC args s mc ms free) (F0 m pc ls rest) := by
  intro T hT X
  have htr : e.platform.stackTraces = false := (show e.platform.stackTraces = l.stackTraces by rw [X.admits.platform]).trans hl
  have Y := vx_rebase X (R' := { frames := R.frames, locals := R.locals, cells := 1, slots := 6 }) (Nat.le_refl _) (Nat.le_refl _) hRcells hRslots
  obtain ⟨s', hA⟩ : ∃ z, z = (T.setVm s.vm).setFrames (.invoking m args :: below) := ⟨_, rfl⟩
  rw [← hA] at Y
  have hvm : s'.vm = s.vm := by rw [hA]; rfl
  have hhp : s'.heap = H := by rw [hA]; exact hT
  have hW0 : s.WarmedH s'.vm := by rw [hvm]; exact State.WarmedH.refl s
  have hat' : ∀ w ∈ vx_at0 own ic cls names, w.before args s' = true := fun w hw => vx_ot_at hW0 hvm.symm (hgood w (List.mem_cons_of_mem _ (List.mem_cons_of_mem _ hw))) (hat w hw)
  have hk' : (Cond.classLink own ik cls).before args s' = true := vx_ot_at hW0 hvm.symm (hgood _ List.mem_cons_self) hk
  have hini' : (Cond.initialized cls).before args s' = true := vx_ot_at hW0 hvm.symm (hgood _ (List.mem_cons_of_mem _ List.mem_cons_self)) hini
  have hU' : vx_Zq Bundle.tN "UNASSIGNED_STACK" Bundle.steD A s' s'.heap := by rw [hhp]; exact vx_Zq.moved hW0.alike (hU.kept hS.2.1)
  have hN' : vx_Zq Bundle.tN "SUPPRESSED_SENTINEL" Bundle.listD A s' s'.heap := by rw [hhp]; exact vx_Zq.moved hW0.alike (hN.kept hS.2.1)
  have h : ∀ w ∈ Bundle.ownAtoms0 own ic cls names, w.before args s' = true := vx_own hat' (vx_isRefq hU'.1) (vx_isRefq hN'.1) hU'.2.word hN'.2.word
  have hown' : s'.vm.findClass own = some m.cls := by rw [hvm]; exact hown
  have hins : (Cond.instantiable cls 6).before args s' = true := h _ (by simp [Bundle.ownAtoms0])
  obtain ⟨vm₁, cX, kX, hfX, hkX, -, -, X₁, st1⟩ := Y.newCold hexec (own := own) (C := cls) (index := ik) (n := 6) hown' hk' hins hini'
    (g := F0 m pc ls rest) rfl (by rw [hb]; exact d0) (Nat.le_refl _) (Nat.le_refl _)
  generalize hT1 : (T.setVm vm₁).pushCell { cls := cX, slots := kX.instanceTypes.map defaultValue, vm := .none } = T1 at X₁ st1
  have hcat : (Value.ref T.heap.size).category = 1 := rfl
  have hcellA : T1.heap[T.heap.size]? = some (freshCell cX kX) := by rw [← hT1]; exact State.heap_pushCell_size _ _
  have d3' : decode c.code (pc + 3) = .ok (.dup, 1) := by rw [hb]; exact d3
  obtain ⟨U, hsteps, hrun, hend, hW, hsame, ce, hce, hO⟩ := X₁.ctorThrow0 hexec htr (own := own) (cls := cls) (names := names) (ic := ic) hown' hcls hnames h (fun x hx => nomatch hx) hfX hkX hcellA (by rw [hhp, hT]; exact Nat.le_refl _)
    (g := { method := m, pc := pc + 4, locals := ls, stack := .ref T.heap.size :: .ref T.heap.size :: rest, locked := none }) rfl hsize rfl rfl (rest := rest) rfl
    (by rw [hb]; exact d4) (by rw [hb]; exact d7) hout hRframes (by simp only [List.map_cons, List.sum_cons, hcat]; omega) hlocks
  obtain ⟨f1, f2⟩ := vx_frame hsame
  rw [hhp] at f1 f2
  have hWs : s.WarmedH U.vm := State.WarmedH.trans hW0 hW
  have hcl : s.vm.findClass cls = some ce.cls := by
    have h9 := hO.cls
    rw [hvm] at h9
    exact h9
  have hall : s.sameButNew ({ U with vm := s.vm } : State) locs mc ms := by
    subst hA
    obtain ⟨e1, e2⟩ := hsame
    rw [State.setFrames_setFrames] at e1
    have h2 : (T.setVm s.vm).sameButNew ({ U with vm := s.vm } : State) [] (0 + 1) (0 + 6) := ⟨e1, e2⟩
    have h3 := X.same.trans h2
    rw [List.append_nil] at h3
    exact h3.mono hc hs
  refine ⟨U, ?_, .threw T.heap.size, hrun, hend, Or.inr ⟨T.heap.size, rfl, cls, ce, locs, hx U hWs.alike f1 (fun q hq => f2 q hq (fun z hz => nomatch hz)), hce, hO.vm, hcl, hWs, hall, hf⟩⟩
  refine st1 _ ?_
  show Steps p.tables e below (T1.setTop { method := m, pc := pc + 3, locals := ls, stack := .ref T.heap.size :: rest, locked := none }) _
  jvm_step X₁.here [X₁.here.top, hexec, d3', Value.category]
  exact hsteps
/-- 'throw new E("text")': new; dup; ldc; invokespecial; athrow -/
theorem vx_throwS {cc : ByteArray} {pc : Nat} (hexec : p.tables.exec = Jvm.exec) (hb : c.code = cc) (hl : l.stackTraces = false) {own cls text : String} {names : List String} {ik is ic mc ms sa : Nat} {A : Nat → Prop}
    (hown : s.vm.findClass own = some m.cls) (hcls : Bundle.fit cls = true) (hnames : ∀ n ∈ names, Bundle.fit n = true)
    (hk : (Cond.classLink own ik cls).before args s = true) (hini : (Cond.initialized cls).before args s = true) (hstr : vk_R own is text sa s) (hat : ∀ w ∈ vx_atS own ic cls names, w.before args s = true)
    (hgood : ∀ w ∈ Cond.classLink own ik cls :: Cond.initialized cls :: vx_atS own ic cls names, vx_ot w = true)
    (hU : vx_Zq Bundle.tN "UNASSIGNED_STACK" Bundle.steD A s s.heap) (hN : vx_Zq Bundle.tN "SUPPRESSED_SENTINEL" Bundle.listD A s s.heap) (hS : va_S A s.heap H locs) (hsize : ls.size = c.maxLocals)
    (d0 : decode cc pc = .ok (.new ik, 3)) (d3 : decode cc (pc + 3) = .ok (.dup, 1)) (d4 : decode cc (pc + 4) = .ok (.ldc is, 2)) (d6 : decode cc (pc + 6) = .ok (.invokespecial ic, 3)) (d9 : decode cc (pc + 9) = .ok (.athrow, 1))
    (hout : ∀ x ∈ c.exceptionTable.toList, covers x (pc + 9) = false)
    (hRframes : names.length + 3 < R.frames) (hRlocals : (rest.map fun v => v.category).sum + (13 * (names.length + 1) + 43) ≤ R.locals) (hRcells : cells + 1 ≤ R.cells) (hRslots : slots + 6 ≤ R.slots) (hlocks : meth.locks = false)
    (hx : ∀ t : State, s.vm.Alike t.vm → H.size ≤ t.heap.size → (∀ q : Nat, q < H.size → t.heap[q]? = H[q]?) → XC cls s t)
    (hf : ∀ z ∈ locs, free z.base) (hc : cells + 1 ≤ mc) (hs : slots + 6 ≤ ms) :
    W p l e R s m args below meth c H locs cells slots (vx_MQ below Qc XC args s mc ms free) (F0 m pc ls rest) := by
  intro T hT X
  have htr : e.platform.stackTraces = false := (show e.platform.stackTraces = l.stackTraces by rw [X.admits.platform]).trans hl
  have Y := vx_rebase X (R' := { frames := R.frames, locals := R.locals, cells := 1, slots := 6 }) (Nat.le_refl _) (Nat.le_refl _) hRcells hRslots
  obtain ⟨s', hA⟩ : ∃ z, z = (T.setVm s.vm).setFrames (.invoking m args :: below) := ⟨_, rfl⟩
  rw [← hA] at Y
  have hvm : s'.vm = s.vm := by rw [hA]; rfl
  have hhp : s'.heap = H := by rw [hA]; exact hT
  have hW0 : s.WarmedH s'.vm := by rw [hvm]; exact State.WarmedH.refl s
  have hat' : ∀ w ∈ vx_atS own ic cls names, w.before args s' = true := fun w hw => vx_ot_at hW0 hvm.symm (hgood w (List.mem_cons_of_mem _ (List.mem_cons_of_mem _ hw))) (hat w hw)
  have hk' : (Cond.classLink own ik cls).before args s' = true := vx_ot_at hW0 hvm.symm (hgood _ List.mem_cons_self) hk
  have hini' : (Cond.initialized cls).before args s' = true := vx_ot_at hW0 hvm.symm (hgood _ (List.mem_cons_of_mem _ List.mem_cons_self)) hini
  have hU' : vx_Zq Bundle.tN "UNASSIGNED_STACK" Bundle.steD A s' s'.heap := by rw [hhp]; exact vx_Zq.moved hW0.alike (hU.kept hS.2.1)
  have hN' : vx_Zq Bundle.tN "SUPPRESSED_SENTINEL" Bundle.listD A s' s'.heap := by rw [hhp]; exact vx_Zq.moved hW0.alike (hN.kept hS.2.1)
  have h : ∀ w ∈ Bundle.ownAtoms own ic cls names, w.before args s' = true := vx_own hat' (vx_isRefq hU'.1) (vx_isRefq hN'.1) hU'.2.word hN'.2.word
  have hown' : s'.vm.findClass own = some m.cls := by rw [hvm]; exact hown
  have hins : (Cond.instantiable cls 6).before args s' = true := h _ (by simp [Bundle.ownAtoms])
  obtain ⟨vm₁, cX, kX, hfX, hkX, -, -, X₁, st1⟩ := Y.newCold hexec (own := own) (C := cls) (index := ik) (n := 6) hown' hk' hins hini'
    (g := F0 m pc ls rest) rfl (by rw [hb]; exact d0) (Nat.le_refl _) (Nat.le_refl _)
  generalize hT1 : (T.setVm vm₁).pushCell { cls := cX, slots := kX.instanceTypes.map defaultValue, vm := .none } = T1 at X₁ st1
  have hcat : (Value.ref T.heap.size).category = 1 := rfl
  have hcellA : T1.heap[T.heap.size]? = some (freshCell cX kX) := by rw [← hT1]; exact State.heap_pushCell_size _ _
  have d3' : decode c.code (pc + 3) = .ok (.dup, 1) := by rw [hb]; exact d3
  have d4' : decode c.code (pc + 4) = .ok (.ldc is, 2) := by rw [hb]; exact d4
  have hstr' : vk_R own is text sa s' := vk_R.warm hW0 hstr
  obtain ⟨U, hsteps, hrun, hend, hW, hsame, ce, hce, hO⟩ := X₁.ctorThrowS hexec htr (own := own) (cls := cls) (names := names) (ic := ic) hown' hcls hnames h (fun x hx => nomatch hx) hfX hkX hcellA (by rw [hhp, hT]; exact Nat.le_refl _) (msg := .ref sa) rfl
    (g := { method := m, pc := pc + 6, locals := ls, stack := .ref sa :: .ref T.heap.size :: .ref T.heap.size :: rest, locked := none }) rfl hsize rfl rfl (rest := rest) rfl
    (by rw [hb]; exact d6) (by rw [hb]; exact d9) hout hRframes (by simp only [List.map_cons, List.sum_cons, hcat]; omega) hlocks
  obtain ⟨f1, f2⟩ := vx_frame hsame
  rw [hhp] at f1 f2
  have hWs : s.WarmedH U.vm := State.WarmedH.trans hW0 hW
  have hcl : s.vm.findClass cls = some ce.cls := by
    have h9 := hO.cls
    rw [hvm] at h9
    exact h9
  have hall : s.sameButNew ({ U with vm := s.vm } : State) locs mc ms := by
    subst hA
    obtain ⟨e1, e2⟩ := hsame
    rw [State.setFrames_setFrames] at e1
    have h2 : (T.setVm s.vm).sameButNew ({ U with vm := s.vm } : State) [] (0 + 1) (0 + 6) := ⟨e1, e2⟩
    have h3 := X.same.trans h2
    rw [List.append_nil] at h3
    exact h3.mono hc hs
  refine ⟨U, ?_, .threw T.heap.size, hrun, hend, Or.inr ⟨T.heap.size, rfl, cls, ce, locs, hx U hWs.alike f1 (fun q hq => f2 q hq (fun z hz => nomatch hz)), hce, hO.vm, hcl, hWs, hall, hf⟩⟩
  refine st1 _ ?_
  show Steps p.tables e below (T1.setTop { method := m, pc := pc + 3, locals := ls, stack := .ref T.heap.size :: rest, locked := none }) _
  jvm_step X₁.here [X₁.here.top, hexec, d3', Value.category]
  exact X₁.ldcString hexec (own := own) (text := text) (index := is) (a := sa) hown' hstr'.1 hstr'.2
    (g := { method := m, pc := pc + 4, locals := ls, stack := .ref T.heap.size :: .ref T.heap.size :: rest, locked := none }) rfl d4' _ hsteps
/-- 'throw new E("text")', the text by a wide index -/
theorem vx_throwSW {cc : ByteArray} {pc : Nat} (hexec : p.tables.exec = Jvm.exec) (hb : c.code = cc) (hl : l.stackTraces = false) {own cls text : String} {names : List String} {ik is ic mc ms sa : Nat} {A : Nat → Prop}
    (hown : s.vm.findClass own = some m.cls) (hcls : Bundle.fit cls = true) (hnames : ∀ n ∈ names, Bundle.fit n = true)
    (hk : (Cond.classLink own ik cls).before args s = true) (hini : (Cond.initialized cls).before args s = true) (hstr : vk_R own is text sa s) (hat : ∀ w ∈ vx_atS own ic cls names, w.before args s = true)
    (hgood : ∀ w ∈ Cond.classLink own ik cls :: Cond.initialized cls :: vx_atS own ic cls names, vx_ot w = true)
    (hU : vx_Zq Bundle.tN "UNASSIGNED_STACK" Bundle.steD A s s.heap) (hN : vx_Zq Bundle.tN "SUPPRESSED_SENTINEL" Bundle.listD A s s.heap) (hS : va_S A s.heap H locs) (hsize : ls.size = c.maxLocals)
    (d0 : decode cc pc = .ok (.new ik, 3)) (d3 : decode cc (pc + 3) = .ok (.dup, 1)) (d4 : decode cc (pc + 4) = .ok (.ldc_w is, 3)) (d7 : decode cc (pc + 7) = .ok (.invokespecial ic, 3)) (d10 : decode cc (pc + 10) = .ok (.athrow, 1))
    (hout : ∀ x ∈ c.exceptionTable.toList, covers x (pc + 10) = false)
    (hRframes : names.length + 3 < R.frames) (hRlocals : (rest.map fun v => v.category).sum + (13 * (names.length + 1) + 43) ≤ R.locals) (hRcells : cells + 1 ≤ R.cells) (hRslots : slots + 6 ≤ R.slots) (hlocks : meth.locks = false)
    (hx : ∀ t : State, s.vm.Alike t.vm → H.size ≤ t.heap.size → (∀ q : Nat, q < H.size → t.heap[q]? = H[q]?) → XC cls s t)
    (hf : ∀ z ∈ locs, free z.base) (hc : cells + 1 ≤ mc) (hs : slots + 6 ≤ ms) :
    W p l e R s m args below meth c H locs cells slots (vx_MQ below Qc XC args s mc ms free) (F0 m pc ls rest) := by
  intro T hT X
  have htr : e.platform.stackTraces = false := (show e.platform.stackTraces = l.stackTraces by rw [X.admits.platform]).trans hl
  have Y := vx_rebase X (R' := { frames := R.frames, locals := R.locals, cells := 1, slots := 6 }) (Nat.le_refl _) (Nat.le_refl _) hRcells hRslots
  obtain ⟨s', hA⟩ : ∃ z, z = (T.setVm s.vm).setFrames (.invoking m args :: below) := ⟨_, rfl⟩
  rw [← hA] at Y
  have hvm : s'.vm = s.vm := by rw [hA]; rfl
  have hhp : s'.heap = H := by rw [hA]; exact hT
  have hW0 : s.WarmedH s'.vm := by rw [hvm]; exact State.WarmedH.refl s
  have hat' : ∀ w ∈ vx_atS own ic cls names, w.before args s' = true := fun w hw => vx_ot_at hW0 hvm.symm (hgood w (List.mem_cons_of_mem _ (List.mem_cons_of_mem _ hw))) (hat w hw)
  have hk' : (Cond.classLink own ik cls).before args s' = true := vx_ot_at hW0 hvm.symm (hgood _ List.mem_cons_self) hk
  have hini' : (Cond.initialized cls).before args s' = true := vx_ot_at hW0 hvm.symm (hgood _ (List.mem_cons_of_mem _ List.mem_cons_self)) hini
  have hU' : vx_Zq Bundle.tN "UNASSIGNED_STACK" Bundle.steD A s' s'.heap := by rw [hhp]; exact vx_Zq.moved hW0.alike (hU.kept hS.2.1)
  have hN' : vx_Zq Bundle.tN "SUPPRESSED_SENTINEL" Bundle.listD A s' s'.heap := by rw [hhp]; exact vx_Zq.moved hW0.alike (hN.kept hS.2.1)
  have h : ∀ w ∈ Bundle.ownAtoms own ic cls names, w.before args s' = true := vx_own hat' (vx_isRefq hU'.1) (vx_isRefq hN'.1) hU'.2.word hN'.2.word
  have hown' : s'.vm.findClass own = some m.cls := by rw [hvm]; exact hown
  have hins : (Cond.instantiable cls 6).before args s' = true := h _ (by simp [Bundle.ownAtoms])
  obtain ⟨vm₁, cX, kX, hfX, hkX, -, -, X₁, st1⟩ := Y.newCold hexec (own := own) (C := cls) (index := ik) (n := 6) hown' hk' hins hini'
    (g := F0 m pc ls rest) rfl (by rw [hb]; exact d0) (Nat.le_refl _) (Nat.le_refl _)
  generalize hT1 : (T.setVm vm₁).pushCell { cls := cX, slots := kX.instanceTypes.map defaultValue, vm := .none } = T1 at X₁ st1
  have hcat : (Value.ref T.heap.size).category = 1 := rfl
  have hcellA : T1.heap[T.heap.size]? = some (freshCell cX kX) := by rw [← hT1]; exact State.heap_pushCell_size _ _
  have d3' : decode c.code (pc + 3) = .ok (.dup, 1) := by rw [hb]; exact d3
  have d4' : decode c.code (pc + 4) = .ok (.ldc_w is, 3) := by rw [hb]; exact d4
  have hstr' : vk_R own is text sa s' := vk_R.warm hW0 hstr
  obtain ⟨U, hsteps, hrun, hend, hW, hsame, ce, hce, hO⟩ := X₁.ctorThrowS hexec htr (own := own) (cls := cls) (names := names) (ic := ic) hown' hcls hnames h (fun x hx => nomatch hx) hfX hkX hcellA (by rw [hhp, hT]; exact Nat.le_refl _) (msg := .ref sa) rfl
    (g := { method := m, pc := pc + 7, locals := ls, stack := .ref sa :: .ref T.heap.size :: .ref T.heap.size :: rest, locked := none }) rfl hsize rfl rfl (rest := rest) rfl
    (by rw [hb]; exact d7) (by rw [hb]; exact d10) hout hRframes (by simp only [List.map_cons, List.sum_cons, hcat]; omega) hlocks
  obtain ⟨f1, f2⟩ := vx_frame hsame
  rw [hhp] at f1 f2
  have hWs : s.WarmedH U.vm := State.WarmedH.trans hW0 hW
  have hcl : s.vm.findClass cls = some ce.cls := by
    have h9 := hO.cls
    rw [hvm] at h9
    exact h9
  have hall : s.sameButNew ({ U with vm := s.vm } : State) locs mc ms := by
    subst hA
    obtain ⟨e1, e2⟩ := hsame
    rw [State.setFrames_setFrames] at e1
    have h2 : (T.setVm s.vm).sameButNew ({ U with vm := s.vm } : State) [] (0 + 1) (0 + 6) := ⟨e1, e2⟩
    have h3 := X.same.trans h2
    rw [List.append_nil] at h3
    exact h3.mono hc hs
  refine ⟨U, ?_, .threw T.heap.size, hrun, hend, Or.inr ⟨T.heap.size, rfl, cls, ce, locs, hx U hWs.alike f1 (fun q hq => f2 q hq (fun z hz => nomatch hz)), hce, hO.vm, hcl, hWs, hall, hf⟩⟩
  refine st1 _ ?_
  show Steps p.tables e below (T1.setTop { method := m, pc := pc + 3, locals := ls, stack := .ref T.heap.size :: rest, locked := none }) _
  jvm_step X₁.here [X₁.here.top, hexec, d3', Value.category]
  exact X₁.ldcStringW hexec (own := own) (text := text) (index := is) (a := sa) hown' hstr'.1 hstr'.2
    (g := { method := m, pc := pc + 4, locals := ls, stack := .ref T.heap.size :: .ref T.heap.size :: rest, locked := none }) rfl d4' _ hsteps
end Ends
section Bodies
variable {l : Launch}
theorem vx_ofW {y : MethodName} {ws ws' : List Cond} {rm : Room} {Pc : Array Value → State → Prop} {Qc : Array Value → State → Outcome → State → Prop} {XC : String → State → State → Prop} {mc ms : Nat} {free : Addr → Prop} {cc : ByteArray} {maxL : Nat} {ret : Option FieldType}
    (hy : plainName y.cls = true) (hw : ws = Cond.code y cc maxL ret :: ws')
    (body : ∀ p e s m args below meth c s₁, BodyLoose p l y (headSpec ws rm) cc maxL ret e s m args below meth c s₁ → c.maxLocals = maxL → (∀ x ∈ c.exceptionTable.toList, False) → Pc args s →
      W p l e (headSpec ws rm).room s m args below meth c s.heap [] 0 0 (vx_MQ below Qc XC args s mc ms free) (entryFrame m args maxL)) : vx_Met l y ws rm Pc Qc XC mc ms free := by
  refine MetFree.of_bodyS (code := cc) (maxLocals := maxL) (ret := ret) hy ?_ ?_
  · intro args s m h hn
    obtain ⟨meth, c, h1, h2, h3, h4, h5, h6, -, -⟩ := Cond.code_spec hn (atoms_spec (ws := ws) h _ (by rw [hw]; exact List.mem_cons_self))
    exact ⟨meth, c, h1, h2, h3, h4, h5, h6⟩
  · intro p e s m args below meth c s₁ B hml hP _
    have hh0 : s₁.heap = s.heap := by rw [B.state]; rfl
    have ht : ∀ x ∈ c.exceptionTable.toList, False := by
      obtain ⟨meth9, c9, h1, h2, -, -, -, -, h7, -⟩ := Cond.code_spec B.named (atoms_spec (ws := ws) B.pre _ (by rw [hw]; exact List.mem_cons_self))
      cases Option.some.inj (h1.symm.trans B.method)
      cases Option.some.inj (h2.symm.trans (Stand.of_body B).code)
      intro x hx
      rw [Array.isEmpty_iff.mp h7] at hx
      cases hx
    obtain ⟨t, a1, o, b1, b2, b3⟩ := body p e s m args below meth c s₁ B hml ht hP s₁ hh0 (Stand.of_body B)
    exact ⟨t, o, a1, b1, b2, b3⟩
/-- the table of a body with handlers -/
theorem vx_table {p : Program} {x y : MethodName} {S : Spec} {cc bytes : ByteArray} {maxL maxL' : Nat} {ret ret' : Option FieldType} {e : Env} {s s₁ : State} {m : MethodId} {args : Array Value} {below : List Frame} {meth : Method} {c : Code} {hh : List (Nat × Nat × Nat × Nat)}
    (B : BodyLoose p l y S cc maxL ret e s m args below meth c s₁) (h : (Cond.codeWith y bytes maxL' ret' hh).before args s = true) : c.exceptionTable.toList = tableOf hh := by
  obtain ⟨m9, meth9, c9, hn9, h1, h2, -, -, h6, -⟩ := Cond.codeWith_spec h
  cases Option.some.inj (hn9.symm.trans B.named)
  cases Option.some.inj (h1.symm.trans B.method)
  cases Option.some.inj (h2.symm.trans (Stand.of_body B).code)
  rw [← h6, table_eq]
end Bodies
end VXA
/-! ===== END ===== -/
/-! ===== BEGIN a static call of a method with an exception table ===== -/
section VXS
variable {p : Program} {l : Launch} {e : Env} {R : Room} {s : State} {m : MethodId} {args : Array Value} {below : List Frame} {meth : Method} {c : Code} {T : State} {H : Heap} {locs : List Loc} {cells slots : Nat}
abbrev vx_CSW (R : Room) (s : State) (args : Array Value) (own : String) (index : Nat) (y : MethodName) (bytes : ByteArray) (maxL : Nat) (ret : Option FieldType) (hh : List (Nat × Nat × Nat × Nat)) (ws : List Cond) (rm : Room) (mc ms n : Nat) : Prop :=
  (rm.cells = mc ∧ rm.slots = ms ∧ rm.frames + 1 ≤ R.frames ∧ 8 + (maxL + 11) + rm.locals ≤ R.locals ∧ (∀ w ∈ ws, ∀ (a' : Array Value) (U : State), s.WarmedH U.vm → w.before a' U = true) ∧ Cond.codeWith y bytes maxL ret hh ∈ ws) ∧
  (Cond.codeWith y bytes maxL ret hh).before args s = true ∧ (Cond.initialized y.cls).before args s = true ∧ (y.cls ≠ "java/lang/invoke/MethodHandle" ∧ y.cls ≠ "java/lang/invoke/VarHandle") ∧
  (∀ sig, parseMethodDescriptor y.desc = some sig → n = sig.parameters.length) ∧ (Cond.methodLink own index y).before args s = true ∧ (Cond.static y).before args s = true
theorem vx_cwSW {own : String} {index maxL mc ms : Nat} {y : MethodName} {bytes : ByteArray} {ret : Option FieldType} {hh : List (Nat × Nat × Nat × Nat)} {Ts ws ws' : List Cond} {rm : Room} (n : Nat) (ht : ∀ w ∈ Ts, w.before args s = true) (hT : GoodIn Ts (va_wsS own index y ws)) (hw : ws = Cond.codeWith y bytes maxL ret hh :: ws') (hrc : rm.cells = mc) (hrs : rm.slots = ms)
    (hd : y.cls ≠ "java/lang/invoke/MethodHandle" ∧ y.cls ≠ "java/lang/invoke/VarHandle" ∧ (parseMethodDescriptor y.desc).map (fun d => d.parameters.length) = some n) (hR : rm.frames + 1 ≤ R.frames ∧ 8 + (maxL + 11) + rm.locals ≤ R.locals) :
    vx_CSW R s args own index y bytes maxL ret hh ws rm mc ms n := by
  have ok : ∀ w ∈ va_wsS own index y ws, w.before args s = true := fun w h => ht w (hT w h).1
  have hG : GoodIn Ts ws := fun w h => hT w (by unfold va_wsS; exact List.mem_append_right _ h)
  have hc : Cond.codeWith y bytes maxL ret hh ∈ ws := by rw [hw]; exact List.mem_cons_self
  refine ⟨⟨hrc, hrs, hR.1, hR.2, pay_in ht hG, hc⟩, ht _ (hG _ hc).1, ok _ (by simp [va_wsS]), ⟨hd.1, hd.2.1⟩, fun sig h => ?_, ok _ (by simp [va_wsS]), ok _ (by simp [va_wsS])⟩
  have h2 := hd.2.2
  rw [h] at h2
  exact (Option.some.inj h2).symm
theorem vx_callSW (X : Stand p l e R s m args below meth c T locs cells slots) (hexec : p.tables.exec = Jvm.exec) {own : String} {index : Nat} {y : MethodName} {bytes : ByteArray} {maxL : Nat} {ret : Option FieldType} {hh : List (Nat × Nat × Nat × Nat)}
    (hown : s.vm.findClass own = some m.cls) (hlink : (Cond.methodLink own index y).before args s = true) (hstat : (Cond.static y).before args s = true) (hinit : (Cond.initialized y.cls).before args s = true)
    (hcode : (Cond.codeWith y bytes maxL ret hh).before args s = true) (hy : y.cls ≠ "java/lang/invoke/MethodHandle" ∧ y.cls ≠ "java/lang/invoke/VarHandle")
    {W9 : Nat} {Pre : Pt → Array Value → Prop} {Post : Pt → Array Value → Option Value → Pt → Prop} (hK : Back l R p e below s args y 3 W9 Pre Post)
    {g : JFrame} (hg : g.method = m) (hsize : g.locals.size = c.maxLocals) {argsL rest : List Value} (hlen : ∀ sig, parseMethodDescriptor y.desc = some sig → argsL.length = sig.parameters.length)
    (hstack : g.stack = argsL.reverse ++ rest) (hW : 2 * g.monitorRoom + (rest.map fun v => v.category).sum ≤ W9) (hdg : decode c.code g.pc = .ok (.invokestatic index, 3))
    (hpre : ∀ vm₁, s.WarmedH vm₁ → Pre ⟨T.setVm vm₁, locs, cells, slots⟩ argsL.toArray) :
    ∃ (v : Option Value) (vm₁ : Vm) (B : Pt), s.WarmedH vm₁ ∧ Stand p l e R s m args below meth c B.U B.locs B.cells B.slots ∧ Post ⟨T.setVm vm₁, locs, cells, slots⟩ argsL.toArray v B ∧
      ∀ target, Steps p.tables e below (B.U.setTop { g with pc := g.pc + 3, stack := v.toList ++ rest }) target → Steps p.tables e below (T.setTop g) target := by
  obtain ⟨mk, methM, cM, hnamed, hmethM, -, -, -, -, -, -, hsigM⟩ := Cond.codeWith_spec hcode
  have hstatic : methM.isStatic = true := Cond.static_spec hnamed hmethM hstat
  obtain ⟨kP, hkP, -⟩ := className_of_methodNamed hnamed
  have hinitP : kP.init = .initialized := Cond.initialized_spec (findClass_of_methodNamed hnamed) hkP hinit
  obtain ⟨vm₁, X₁, hstep₁⟩ := X.invokestatic hexec hown hlink hnamed hmethM hstatic hkP hinitP hy (g := g) hg (argsL := argsL) (rest := rest) (hlen _ hsigM) hstack hdg
  obtain ⟨v, B, X', hpost, hsteps⟩ := hK m meth c ⟨T.setVm vm₁, locs, cells, slots⟩ { g with stack := rest } (.invokestatic index) mk argsL.toArray X₁ hg hsize hdg hW (X₁.named hnamed) (hpre vm₁ X₁.warmed)
  exact ⟨v, vm₁, B, X₁.warmed, X', hpost, fun target h => hstep₁ _ fun acts => by rw [doInvoke_state]; exact hsteps.trans h⟩
theorem vx_runSW {y : MethodName} {bytes cc : ByteArray} {maxL nL mc ms n index : Nat} {ret : Option FieldType} {hh : List (Nat × Nat × Nat × Nat)} {ws : List Cond} {rm : Room} {Pc : Array Value → State → Prop} {Qc : Array Value → State → Outcome → State → Prop} {free : Addr → Prop} {Ts : List Cond} {own : String} {As rest : List Value} {g : JFrame}
    (S : CallFix p m c cc nL s args Ts own) (hM : Met l y ws rm Pc Qc mc ms free) (cw : vx_CSW R s args own index y bytes maxL ret hh ws rm mc ms n) (hp : PreS s H Pc As)
    (hg : g.method = m) (hn : As.length = n) (hsize : g.locals.size = nL) (hstack : g.stack = As.reverse ++ rest) (hW : 2 * g.monitorRoom + (rest.map fun v => v.category).sum ≤ 8) (hdg : decode cc g.pc = .ok (.invokestatic index, 3)) (hf : cells + mc ≤ R.cells ∧ slots + ms ≤ R.slots) :
    va_Run p l e R s m args below meth c H locs cells slots mc ms g rest (Qc As.toArray) (free) := by
  obtain ⟨⟨hrc, hrs, hfr, hlo, hws, hcw⟩, hcode, hini, hy, hlen, hl, hstt⟩ := cw
  have hK : Back l R p e below s args y 3 8 (PreOf R mc ms Pc) (PostOf Qc mc ms free) := va_backW (hh := hh) (bytes := bytes) (maxL := maxL) (ret := ret) hM hp.1 hrc hrs hfr hlo hws hcw (fun a' U hW => word_at hW (Or.inl (by first | rfl | simp [Cond.onTables, Cond.keeps, Cond.steady])) hini)
  obtain ⟨hx, hb, hml, ho, -⟩ := S
  intro T hT X
  obtain ⟨v, vm₁, ⟨U', l2, c2, s2⟩, hW₁, X', ⟨g', mk, t, L, e1, e2, hq, h1, hL, h2, h3⟩, st⟩ := vx_callSW X hx (hh := hh) (bytes := bytes) (maxL := maxL) (ret := ret) ho hl hstt hini hcode hy hK hg (hsize.trans hml.symm) (argsL := As) (rest := rest) (fun sig h => hn.trans (hlen sig h)) hstack hW (by rw [hb]; exact hdg)
    (fun vm₁ hW₁ => ⟨hf.1, hf.2, hp.2 (T.setVm vm₁) hT hW₁⟩)
  dsimp only [Pt.U, Pt.locs, Pt.cells, Pt.slots] at X' e1 e2 h1 h2 h3 st
  subst h1; subst h2; subst h3
  exact ⟨v, (T.setVm vm₁).calling g' mk As.toArray, t, U', L, hT, X', hL, e1, e2, hq, st⟩
/-- not caught here, past rows that name other classes: it goes on to the caller -/
theorem vx_outP {p : Program} {l : Launch} {e : Env} {R : Room} {s : State} {m : MethodId} {args : Array Value} {below : List Frame} {meth : Method} {c : Code} {H : Heap} {locs : List Loc} {cells slots : Nat} {free : Addr → Prop} {ls : Array Slot} {rest : List Value} {Qc : Array Value → State → Outcome → State → Prop} {XC : String → State → State → Prop}
    {pc : Nat} {own E : String} {ce : Cell} {q : Addr} {mc ms : Nat} (hown : s.vm.findClass own = some m.cls) (hlocks : meth.locks = false)
    (hpass : ∀ z ∈ c.exceptionTable.toList, covers z pc = false ∨ (z.catchType ≠ 0 ∧ ∃ nm : String, (Cond.classLink own z.catchType nm).before args s = true ∧ va_Nc E nm s)) (hcell : H[q]? = some ce) (hv : ce.vm = .none) (hcl : s.vm.findClass E = some ce.cls)
    (hx : ∀ t : State, t.heap = H → s.vm.Alike t.vm → XC E s t) (hf : ∀ z ∈ locs, free z.base) (hc : cells ≤ mc) (hs : slots ≤ ms) :
    vx_W p l e R s m args below meth c H locs cells slots (vx_MQ below Qc XC args s mc ms free) (F0 m pc ls rest) q := by
  intro T hT X
  have hpl : e.platform.magicAccessors = ({} : Platform).magicAccessors := by rw [X.admits.platform]
  obtain ⟨vm', hW', X', st⟩ := X.outThrough hlocks q (g := F0 m pc ls rest) rfl rfl rfl (cell := ce) (by rw [hT]; exact hcell) (by rw [hv]; rfl)
    (by obtain ⟨k9, h9, -⟩ := Vm.findClass_spec hcl; exact ⟨k9, h9⟩) (fun z hz => by
      rcases hpass z hz with h | ⟨hz0, nm, hl1, hn1⟩
      · exact Or.inl h
      · obtain ⟨c6, hc6, hcl6⟩ := Cond.classLink_spec hown hl1 e.platform hpl
        obtain ⟨a8, b8, h1, h2, h3⟩ := hn1
        cases Option.some.inj (h1.symm.trans hcl)
        cases Option.some.inj (h2.symm.trans hc6)
        exact Or.inr ⟨hz0, _, hcl6, h3⟩)
  obtain ⟨g₀, hfr⟩ := X'.frames_eq
  have hcell9 : ((T.setVm vm').setFrames (.throwing q :: below)).heap[q]? = some ce := by
    show T.heap[q]? = some ce
    rw [hT]; exact hcell
  have hend : Ended ((T.setVm vm').setFrames (.throwing q :: below)) below (.threw q) := State.frames_setFrames _ (State.cur_lt_of_frames hfr)
  refine ⟨(T.setVm vm').setFrames (.throwing q :: below), ?_, .threw q, X'.here.running, hend, Or.inr ⟨q, rfl, E, ce, locs, hx _ hT (X'.ends _).1.alike, hcell9, hv, hcl, (X'.ends _).1, (X'.ends _).2.mono hc hs, hf⟩⟩
  rw [X.pushThrowing_eq]
  exact st
/-- a thing of a world lies in the heap -/
theorem vx_lt {D : va_G} {cl : List vw_C} {ws : va_W} {H1 : Heap} (h : va_P D cl ws H1) {k : Nat} {q : Nat × va_E} (hk : ws[k]? = some q) : q.1 < H1.size := (h k q hk).lt
end VXS
/-! ===== END ===== -/
/-! ===== BEGIN methods with a table of their own: called by a name, returning or throwing ===== -/
section VXH
/-! vx_backW, vx_callVX, vx_callSX, vx_callVW, vx_runVW, vx_runVX, vx_runSX, vx_ofWH follow the same proofs as their sisters above (Free/Laws.lean, Shelf42/LK1.lean); vx_outP calls Shelf42/NT130.lean (outThrough). -/
section
variable {l : Launch} {R : Room} {p : Program} {e : Env} {below : List Frame} {s : State} {sargs : Array Value} {y : MethodName} {len W9 : Nat}
theorem vx_backW {ws : List Cond} {rm : Room} {Pc : Array Value → State → Prop} {Qc : Array Value → State → Outcome → State → Prop} {XC : String → State → State → Prop} {mc ms : Nat} {free : Addr → Prop} {bytes : ByteArray} {maxL : Nat} {ret : Option FieldType} {hh : List (Nat × Nat × Nat × Nat)}
    (hM : vx_Met l y ws rm Pc Qc XC mc ms free) (hblind : FrameBlind Pc) (hrc : rm.cells = mc) (hrs : rm.slots = ms)
    (hframes : rm.frames + 1 ≤ R.frames) (hlocals : W9 + (maxL + 11) + rm.locals ≤ R.locals)
    (hws : ∀ w ∈ ws, ∀ a' U, s.WarmedH U.vm → w.before a' U = true) (hcode : Cond.codeWith y bytes maxL ret hh ∈ ws) (hinit : ∀ a' U, s.WarmedH U.vm → (Cond.initialized y.cls).before a' U = true) :
    vx_Back l R p e below s sargs y len W9 (PreOf R mc ms Pc) (PostOf Qc mc ms free) (vx_Post XC mc ms free) := by
  intro m meth c A g ig mk a X hg hsize hdg hW hn hp
  have h1 : (headSpec ws rm).pre.before a A.U = true := atoms_intro fun w hw => hws w hw _ _ X.warmed
  have h2 : (Cond.codeWith y bytes maxL ret hh).before a A.U = true := hws _ hcode _ _ X.warmed
  have h3 : (Cond.initialized y.cls).before a A.U = true := hinit _ _ X.warmed
  have h4 : A.cells + (headSpec ws rm).room.cells ≤ R.cells := by rw [show (headSpec ws rm).room.cells = mc from hrc]; exact hp.1
  have h5 : A.slots + (headSpec ws rm).room.slots ≤ R.slots := by rw [show (headSpec ws rm).room.slots = ms from hrs]; exact hp.2.1
  have hPc : Pc a (A.U.calling g mk a) := hblind _ _ _ _ hp.2.2
  obtain ⟨U, Ls, c0, s0⟩ := A
  dsimp only [Pt.U, Pt.locs, Pt.cells, Pt.slots] at h1 h2 h3 h4 h5 X hn hPc ⊢
  obtain ⟨m9, methY, cY, hn9, hmY, hcY, -, hlY, -⟩ := Cond.codeWith_spec h2
  cases Option.some.inj (hn9.symm.trans hn)
  obtain ⟨kY, hkY, -⟩ := className_of_methodNamed hn
  have hinitY : kY.init = .initialized := Cond.initialized_spec (findClass_of_methodNamed hn) hkY h3
  have h : At U g.method c below := by rw [hg]; exact X.here
  have hlocals9 : W9 + (maxL + 11) + (headSpec ws rm).room.locals ≤ R.locals := hlocals
  have happ : (headSpec ws rm).appliesLoose y e.platform (U.calling g mk a) = true :=
    Spec.appliesLoose_calling (g := g) h hdg hn hkY hinitY
      (X.room_calling (g := g) (R' := (headSpec ws rm).room) hsize hmY hcY hframes (by rw [hlY]; omega) h4 h5) h1
  obtain ⟨mid, hmid⟩ := h.above
  have hfr : (U.setTop g).frames = (.java g :: mid) ++ below := by rw [State.frames_setTop' g h.top, hmid]; rfl
  obtain ⟨o, s₂, hsteps, -, hend, hq⟩ := Steps.callFree hM p X.admits X.cas X.clock (acts := []) hfr happ hPc trivial
  have hq' : vx_Q Qc XC mc ms free a (U.calling g mk a) o s₂ := hq
  rw [State.frames_setTop' g h.top] at hend
  obtain ⟨g₀, hg0⟩ := Option.isSome_iff_exists.mp h.top
  obtain ⟨r, hr⟩ := State.topJava?_eq_some.mp hg0
  have hr' : (({ U with heap := s₂.heap, slotsUsed := s₂.slotsUsed } : State).setVm s₂.vm).frames = .java g₀ :: r := hr
  rcases hq' with ⟨hqc, L, hfe, hL⟩ | ⟨q, rfl, E, ce, L, hx, hce, hcv, hcl, hW₂, hsm, hL⟩
  · obtain ⟨⟨v, rfl⟩, hW₂, e2, q2, q3, q4, q5, q6⟩ := id hfe
    have e3 : s₂ = ({ (U.calling g mk a).setFrames s₂.frames with heap := s₂.heap, slotsUsed := s₂.slotsUsed } : State).setVm s₂.vm := by
      have : s₂ = ({ s₂ with vm := (U.calling g mk a).vm } : State).setVm s₂.vm := rfl
      rw [e2] at this
      exact this
    obtain ⟨c₂, i₂, len₂, hc₂, hd₂, hf₂⟩ := hend
    have hW' : U.WarmedH s₂.vm := hW₂
    have hcc : c₂ = c := by
      have h1 : s₂.code? g.method = U.code? g.method := by
        rw [State.code?_eq, State.code?_eq, hW'.alike.method?]
      exact Option.some.inj (hc₂.symm.trans (h1.trans h.code))
    subst hcc
    have hlen : len₂ = len := by rw [hdg] at hd₂; cases hd₂; rfl
    subst hlen
    have hs₂ : s₂ = (({ U with heap := s₂.heap, slotsUsed := s₂.slotsUsed } : State).setVm s₂.vm).setTop { g with pc := g.pc + len₂, stack := v.toList ++ g.stack } := by
      refine e3.trans ?_
      rw [hf₂, State.calling_eq h.top, State.setFrames_setFrames, State.setTop_of_frames _ hr', hr]
      rfl
    have hsame : U.sameButNew ({ U with heap := s₂.heap, slotsUsed := s₂.slotsUsed } : State) L mc ms := by
      refine ⟨?_, q2, q3, q4, q5, q6⟩
      obtain ⟨t, ht, -⟩ := State.frames_cons hr
      show ({ U with heap := s₂.heap, slotsUsed := s₂.slotsUsed } : State) = { U.setFrames U.frames with heap := s₂.heap, slotsUsed := s₂.slotsUsed }
      rw [State.setFrames_self ht]
    subst hg
    refine Or.inl ⟨v, ⟨(({ U with heap := s₂.heap, slotsUsed := s₂.slotsUsed } : State).setVm s₂.vm), Ls ++ L, c0 + mc, s0 + ms⟩,
      ⟨X.admits, X.cas, X.clock, X.frames, X.room, X.hears, X.method, X.code, (X.here.setHeapUsed s₂.heap s₂.slotsUsed).setVm hW'.alike, X.tail, State.WarmedH.trans X.warmed hW', X.limits, X.bytes, X.same.trans (hsame.setVm s.vm)⟩,
      ⟨g, mk, s₂, L, rfl, rfl, hqc, rfl, hL, rfl, rfl⟩, ?_⟩
    show Steps p.tables e below _ ((({ U with heap := s₂.heap, slotsUsed := s₂.slotsUsed } : State).setVm s₂.vm).setTop { g with pc := g.pc + len₂, stack := v.toList ++ g.stack })
    rw [← hs₂]
    exact hsteps
  · obtain ⟨e2, q2, q3, q4, q5, q6⟩ := id hsm
    have e3 : s₂ = ({ (U.calling g mk a).setFrames s₂.frames with heap := s₂.heap, slotsUsed := s₂.slotsUsed } : State).setVm s₂.vm := by
      have : s₂ = ({ s₂ with vm := (U.calling g mk a).vm } : State).setVm s₂.vm := rfl
      rw [e2] at this
      exact this
    have hf₂ : s₂.frames = .throwing q :: .java g :: U.frames.tail := hend
    have hW' : U.WarmedH s₂.vm := hW₂
    have hs₂ : s₂ = ((({ U with heap := s₂.heap, slotsUsed := s₂.slotsUsed } : State).setVm s₂.vm).setTop g).pushFrame (.throwing q) := by
      refine e3.trans ?_
      rw [hf₂, State.calling_eq h.top, State.setFrames_setFrames, State.pushFrame, State.frames_setTop _ hr', State.setTop_of_frames _ hr', State.setFrames_setFrames, hr]
      rfl
    have hsame : U.sameButNew ({ U with heap := s₂.heap, slotsUsed := s₂.slotsUsed } : State) L mc ms := by
      refine ⟨?_, q2, q3, q4, q5, q6⟩
      obtain ⟨t, ht, -⟩ := State.frames_cons hr
      show ({ U with heap := s₂.heap, slotsUsed := s₂.slotsUsed } : State) = { U.setFrames U.frames with heap := s₂.heap, slotsUsed := s₂.slotsUsed }
      rw [State.setFrames_self ht]
    subst hg
    refine Or.inr ⟨q, ⟨(({ U with heap := s₂.heap, slotsUsed := s₂.slotsUsed } : State).setVm s₂.vm), Ls ++ L, c0 + mc, s0 + ms⟩,
      ⟨X.admits, X.cas, X.clock, X.frames, X.room, X.hears, X.method, X.code, (X.here.setHeapUsed s₂.heap s₂.slotsUsed).setVm hW'.alike, X.tail, State.WarmedH.trans X.warmed hW', X.limits, X.bytes, X.same.trans (hsame.setVm s.vm)⟩,
      ⟨g, mk, s₂, L, E, ce, rfl, rfl, hx, hce, hcv, hcl, rfl, hL, rfl, rfl⟩, ?_⟩
    show Steps p.tables e below _ (((({ U with heap := s₂.heap, slotsUsed := s₂.slotsUsed } : State).setVm s₂.vm).setTop g).pushFrame (.throwing q))
    rw [← hs₂]
    exact hsteps
end
variable {p : Program} {l : Launch} {e : Env} {R : Room} {s : State} {m : MethodId} {args : Array Value} {below : List Frame} {meth : Method} {c : Code} {T : State} {H : Heap} {locs : List Loc} {cells slots : Nat}
theorem vx_callVX (X : Stand p l e R s m args below meth c T locs cells slots) (hexec : p.tables.exec = Jvm.exec) {own C : String} {index : Nat} {y : MethodName} {bytes : ByteArray} {maxL : Nat} {ret : Option FieldType} {hh : List (Nat × Nat × Nat × Nat)}
    (hown : s.vm.findClass own = some m.cls) (hlink : (Cond.methodLink own index y).before args s = true) (hinst : (Cond.instanceMethod y).before args s = true) (hsel : (Cond.selects C y y).before args s = true)
    (hcode : (Cond.codeWith y bytes maxL ret hh).before args s = true) (hy : y.cls ≠ "java/lang/invoke/MethodHandle" ∧ y.cls ≠ "java/lang/invoke/VarHandle")
    {W9 : Nat} {Pre : Pt → Array Value → Prop} {Post : Pt → Array Value → Option Value → Pt → Prop} {PostX : Pt → Array Value → Addr → Pt → Prop} (hK : vx_Back l R p e below s args y 3 W9 Pre Post PostX)
    {b : Addr} {cellB : Cell} (hcell : T.heap[b]? = some cellB) (hobj : cellB.vm.isStatics = false) (hcls : s.vm.findClass C = some cellB.cls)
    {g : JFrame} (hg : g.method = m) (hsize : g.locals.size = c.maxLocals) {argsL rest : List Value} (hlen : ∀ sig, parseMethodDescriptor y.desc = some sig → argsL.length = sig.parameters.length)
    (hstack : g.stack = argsL.reverse ++ .ref b :: rest) (hW : 2 * g.monitorRoom + (rest.map fun v => v.category).sum ≤ W9) (hdg : decode c.code g.pc = .ok (.invokevirtual index, 3))
    (hpre : ∀ vm₁, s.WarmedH vm₁ → Pre ⟨T.setVm vm₁, locs, cells, slots⟩ (Value.ref b :: argsL).toArray) :
    (∃ (v : Option Value) (vm₁ : Vm) (B : Pt), s.WarmedH vm₁ ∧ Stand p l e R s m args below meth c B.U B.locs B.cells B.slots ∧ Post ⟨T.setVm vm₁, locs, cells, slots⟩ (Value.ref b :: argsL).toArray v B ∧
      ∀ target, Steps p.tables e below (B.U.setTop { g with pc := g.pc + 3, stack := v.toList ++ rest }) target → Steps p.tables e below (T.setTop g) target) ∨
    (∃ (q : Addr) (vm₁ : Vm) (B : Pt), s.WarmedH vm₁ ∧ Stand p l e R s m args below meth c B.U B.locs B.cells B.slots ∧ PostX ⟨T.setVm vm₁, locs, cells, slots⟩ (Value.ref b :: argsL).toArray q B ∧
      Steps p.tables e below (T.setTop g) ((B.U.setTop { g with stack := rest }).pushFrame (.throwing q))) := by
  obtain ⟨mk, methM, hnamed, hmethM, hstM, habM⟩ := Cond.instanceMethod_spec hinst
  obtain ⟨m8, methM', cM, hn8, hmethM', -, -, -, -, -, -, hsigM⟩ := Cond.codeWith_spec hcode
  cases Option.some.inj (hn8.symm.trans hnamed)
  cases hmethM.symm.trans hmethM'
  obtain ⟨c2, r2, m2, q1, q2, q3, q4, kP, hkP, hkPi⟩ := Cond.selects_spec hsel
  cases hcls.symm.trans q1
  cases (State.methodFound?_of_named hnamed hy).symm.trans q2
  cases hnamed.symm.trans q3
  have hselP : selectMethod e.platform s.vm cellB.cls mk = .method mk := by rw [Launch.admits_selectMethod X.admits]; exact q4
  obtain ⟨vm₁, X₁, hstep₁⟩ := X.invokevirtual hexec hown hlink hnamed hmethM hstM hkP hkPi hy (a := b) (cell := cellB) hcell
    (fun z h => by rw [h] at hobj; cases hobj) hselP hmethM habM hkP hkPi (g := g) hg (argsL := argsL) (rest := rest) (hlen _ hsigM) hstack hdg
  rcases hK m meth c ⟨T.setVm vm₁, locs, cells, slots⟩ { g with stack := rest } (.invokevirtual index) mk (Value.ref b :: argsL).toArray X₁ hg hsize hdg hW (X₁.named hnamed) (hpre vm₁ X₁.warmed) with ⟨v, B, X', hpost, hsteps⟩ | ⟨q, B, X', hpost, hsteps⟩
  · exact Or.inl ⟨v, vm₁, B, X₁.warmed, X', hpost, fun target h => hstep₁ _ fun acts => by rw [doInvoke_state]; exact hsteps.trans h⟩
  · exact Or.inr ⟨q, vm₁, B, X₁.warmed, X', hpost, hstep₁ _ fun acts => by rw [doInvoke_state]; exact hsteps⟩
theorem vx_callSX (X : Stand p l e R s m args below meth c T locs cells slots) (hexec : p.tables.exec = Jvm.exec) {own : String} {index : Nat} {y : MethodName} {bytes : ByteArray} {maxL : Nat} {ret : Option FieldType} {hh : List (Nat × Nat × Nat × Nat)}
    (hown : s.vm.findClass own = some m.cls) (hlink : (Cond.methodLink own index y).before args s = true) (hstat : (Cond.static y).before args s = true) (hinit : (Cond.initialized y.cls).before args s = true)
    (hcode : (Cond.codeWith y bytes maxL ret hh).before args s = true) (hy : y.cls ≠ "java/lang/invoke/MethodHandle" ∧ y.cls ≠ "java/lang/invoke/VarHandle")
    {W9 : Nat} {Pre : Pt → Array Value → Prop} {Post : Pt → Array Value → Option Value → Pt → Prop} {PostX : Pt → Array Value → Addr → Pt → Prop} (hK : vx_Back l R p e below s args y 3 W9 Pre Post PostX)
    {g : JFrame} (hg : g.method = m) (hsize : g.locals.size = c.maxLocals) {argsL rest : List Value} (hlen : ∀ sig, parseMethodDescriptor y.desc = some sig → argsL.length = sig.parameters.length)
    (hstack : g.stack = argsL.reverse ++ rest) (hW : 2 * g.monitorRoom + (rest.map fun v => v.category).sum ≤ W9) (hdg : decode c.code g.pc = .ok (.invokestatic index, 3))
    (hpre : ∀ vm₁, s.WarmedH vm₁ → Pre ⟨T.setVm vm₁, locs, cells, slots⟩ argsL.toArray) :
    (∃ (v : Option Value) (vm₁ : Vm) (B : Pt), s.WarmedH vm₁ ∧ Stand p l e R s m args below meth c B.U B.locs B.cells B.slots ∧ Post ⟨T.setVm vm₁, locs, cells, slots⟩ argsL.toArray v B ∧
      ∀ target, Steps p.tables e below (B.U.setTop { g with pc := g.pc + 3, stack := v.toList ++ rest }) target → Steps p.tables e below (T.setTop g) target) ∨
    (∃ (q : Addr) (vm₁ : Vm) (B : Pt), s.WarmedH vm₁ ∧ Stand p l e R s m args below meth c B.U B.locs B.cells B.slots ∧ PostX ⟨T.setVm vm₁, locs, cells, slots⟩ argsL.toArray q B ∧
      Steps p.tables e below (T.setTop g) ((B.U.setTop { g with stack := rest }).pushFrame (.throwing q))) := by
  obtain ⟨mk, methM, cM, hnamed, hmethM, -, -, -, -, -, -, hsigM⟩ := Cond.codeWith_spec hcode
  have hstatic : methM.isStatic = true := Cond.static_spec hnamed hmethM hstat
  obtain ⟨kP, hkP, -⟩ := className_of_methodNamed hnamed
  have hinitP : kP.init = .initialized := Cond.initialized_spec (findClass_of_methodNamed hnamed) hkP hinit
  obtain ⟨vm₁, X₁, hstep₁⟩ := X.invokestatic hexec hown hlink hnamed hmethM hstatic hkP hinitP hy (g := g) hg (argsL := argsL) (rest := rest) (hlen _ hsigM) hstack hdg
  rcases hK m meth c ⟨T.setVm vm₁, locs, cells, slots⟩ { g with stack := rest } (.invokestatic index) mk argsL.toArray X₁ hg hsize hdg hW (X₁.named hnamed) (hpre vm₁ X₁.warmed) with ⟨v, B, X', hpost, hsteps⟩ | ⟨q, B, X', hpost, hsteps⟩
  · exact Or.inl ⟨v, vm₁, B, X₁.warmed, X', hpost, fun target h => hstep₁ _ fun acts => by rw [doInvoke_state]; exact hsteps.trans h⟩
  · exact Or.inr ⟨q, vm₁, B, X₁.warmed, X', hpost, hstep₁ _ fun acts => by rw [doInvoke_state]; exact hsteps⟩
theorem vx_callVW (X : Stand p l e R s m args below meth c T locs cells slots) (hexec : p.tables.exec = Jvm.exec) {own C : String} {index : Nat} {y : MethodName} {bytes : ByteArray} {maxL : Nat} {ret : Option FieldType} {hh : List (Nat × Nat × Nat × Nat)}
    (hown : s.vm.findClass own = some m.cls) (hlink : (Cond.methodLink own index y).before args s = true) (hinst : (Cond.instanceMethod y).before args s = true) (hsel : (Cond.selects C y y).before args s = true)
    (hcode : (Cond.codeWith y bytes maxL ret hh).before args s = true) (hy : y.cls ≠ "java/lang/invoke/MethodHandle" ∧ y.cls ≠ "java/lang/invoke/VarHandle")
    {W9 : Nat} {Pre : Pt → Array Value → Prop} {Post : Pt → Array Value → Option Value → Pt → Prop} (hK : Back l R p e below s args y 3 W9 Pre Post)
    {b : Addr} {cellB : Cell} (hcell : T.heap[b]? = some cellB) (hobj : cellB.vm.isStatics = false) (hcls : s.vm.findClass C = some cellB.cls)
    {g : JFrame} (hg : g.method = m) (hsize : g.locals.size = c.maxLocals) {argsL rest : List Value} (hlen : ∀ sig, parseMethodDescriptor y.desc = some sig → argsL.length = sig.parameters.length)
    (hstack : g.stack = argsL.reverse ++ .ref b :: rest) (hW : 2 * g.monitorRoom + (rest.map fun v => v.category).sum ≤ W9) (hdg : decode c.code g.pc = .ok (.invokevirtual index, 3))
    (hpre : ∀ vm₁, s.WarmedH vm₁ → Pre ⟨T.setVm vm₁, locs, cells, slots⟩ (Value.ref b :: argsL).toArray) :
    ∃ (v : Option Value) (vm₁ : Vm) (B : Pt), s.WarmedH vm₁ ∧ Stand p l e R s m args below meth c B.U B.locs B.cells B.slots ∧ Post ⟨T.setVm vm₁, locs, cells, slots⟩ (Value.ref b :: argsL).toArray v B ∧
      ∀ target, Steps p.tables e below (B.U.setTop { g with pc := g.pc + 3, stack := v.toList ++ rest }) target → Steps p.tables e below (T.setTop g) target := by
  obtain ⟨mk, methM, hnamed, hmethM, hstM, habM⟩ := Cond.instanceMethod_spec hinst
  obtain ⟨m8, methM', cM, hn8, hmethM', -, -, -, -, -, -, hsigM⟩ := Cond.codeWith_spec hcode
  cases Option.some.inj (hn8.symm.trans hnamed)
  cases hmethM.symm.trans hmethM'
  obtain ⟨c2, r2, m2, q1, q2, q3, q4, kP, hkP, hkPi⟩ := Cond.selects_spec hsel
  cases hcls.symm.trans q1
  cases (State.methodFound?_of_named hnamed hy).symm.trans q2
  cases hnamed.symm.trans q3
  have hselP : selectMethod e.platform s.vm cellB.cls mk = .method mk := by rw [Launch.admits_selectMethod X.admits]; exact q4
  obtain ⟨vm₁, X₁, hstep₁⟩ := X.invokevirtual hexec hown hlink hnamed hmethM hstM hkP hkPi hy (a := b) (cell := cellB) hcell
    (fun z h => by rw [h] at hobj; cases hobj) hselP hmethM habM hkP hkPi (g := g) hg (argsL := argsL) (rest := rest) (hlen _ hsigM) hstack hdg
  obtain ⟨v, B, X', hpost, hsteps⟩ := hK m meth c ⟨T.setVm vm₁, locs, cells, slots⟩ { g with stack := rest } (.invokevirtual index) mk (Value.ref b :: argsL).toArray X₁ hg hsize hdg hW (X₁.named hnamed) (hpre vm₁ X₁.warmed)
  exact ⟨v, vm₁, B, X₁.warmed, X', hpost, fun target h => hstep₁ _ fun acts => by rw [doInvoke_state]; exact hsteps.trans h⟩
abbrev vx_CVW (R : Room) (s : State) (args : Array Value) (own C : String) (index : Nat) (y : MethodName) (bytes : ByteArray) (maxL : Nat) (ret : Option FieldType) (hh : List (Nat × Nat × Nat × Nat)) (ws : List Cond) (rm : Room) (mc ms n : Nat) : Prop :=
  (rm.cells = mc ∧ rm.slots = ms ∧ rm.frames + 1 ≤ R.frames ∧ 8 + (maxL + 11) + rm.locals ≤ R.locals ∧ (∀ w ∈ ws, ∀ (a' : Array Value) (U : State), s.WarmedH U.vm → w.before a' U = true) ∧ Cond.codeWith y bytes maxL ret hh ∈ ws) ∧
  (Cond.codeWith y bytes maxL ret hh).before args s = true ∧ (Cond.initialized y.cls).before args s = true ∧ (y.cls ≠ "java/lang/invoke/MethodHandle" ∧ y.cls ≠ "java/lang/invoke/VarHandle") ∧
  (∀ sig, parseMethodDescriptor y.desc = some sig → n = sig.parameters.length) ∧ (Cond.methodLink own index y).before args s = true ∧ (Cond.instanceMethod y).before args s = true ∧ (Cond.selects C y y).before args s = true
theorem vx_cwVW {own C : String} {index maxL mc ms : Nat} {y : MethodName} {bytes : ByteArray} {ret : Option FieldType} {hh : List (Nat × Nat × Nat × Nat)} {Ts ws ws' : List Cond} {rm : Room} (n : Nat) (ht : ∀ w ∈ Ts, w.before args s = true) (hT : GoodIn Ts (wsV own index C y ws)) (hw : ws = Cond.codeWith y bytes maxL ret hh :: ws') (hrc : rm.cells = mc) (hrs : rm.slots = ms)
    (hd : y.cls = C ∧ y.cls ≠ "java/lang/invoke/MethodHandle" ∧ y.cls ≠ "java/lang/invoke/VarHandle" ∧ (parseMethodDescriptor y.desc).map (fun d => d.parameters.length) = some n) (hR : rm.frames + 1 ≤ R.frames ∧ 8 + (maxL + 11) + rm.locals ≤ R.locals) :
    vx_CVW R s args own C index y bytes maxL ret hh ws rm mc ms n := by
  obtain ⟨hC, hd⟩ := hd
  subst hC
  have ok : ∀ w ∈ wsV own index y.cls y ws, w.before args s = true := fun w h => ht w (hT w h).1
  have hG : GoodIn Ts ws := fun w h => hT w (by unfold wsV; exact List.mem_append_right _ h)
  have hc : Cond.codeWith y bytes maxL ret hh ∈ ws := by rw [hw]; exact List.mem_cons_self
  refine ⟨⟨hrc, hrs, hR.1, hR.2, pay_in ht hG, hc⟩, ht _ (hG _ hc).1, ok _ (by simp [wsV]), ⟨hd.1, hd.2.1⟩, fun sig h => ?_, ok _ (by simp [wsV]), ok _ (by simp [wsV]), ok _ (by simp [wsV])⟩
  have h2 := hd.2.2
  rw [h] at h2
  exact (Option.some.inj h2).symm
theorem vx_runVW {y : MethodName} {bytes cc : ByteArray} {maxL nL mc ms n index : Nat} {ret : Option FieldType} {hh : List (Nat × Nat × Nat × Nat)} {ws : List Cond} {rm : Room} {Pc : Array Value → State → Prop} {Qc : Array Value → State → Outcome → State → Prop} {free : Addr → Prop} {Ts : List Cond} {own C : String} {b : Addr} {As rest : List Value} {g : JFrame}
    (S : CallFix p m c cc nL s args Ts own) (hM : Met l y ws rm Pc Qc mc ms free) (cw : vx_CVW R s args own C index y bytes maxL ret hh ws rm mc ms n) (hp : PreV s H C b Pc As)
    (hg : g.method = m) (hn : As.length = n) (hsize : g.locals.size = nL) (hstack : g.stack = As.reverse ++ .ref b :: rest) (hW : 2 * g.monitorRoom + (rest.map fun v => v.category).sum ≤ 8) (hdg : decode cc g.pc = .ok (.invokevirtual index, 3)) (hf : cells + mc ≤ R.cells ∧ slots + ms ≤ R.slots) :
    va_Run p l e R s m args below meth c H locs cells slots mc ms g rest (Qc (Value.ref b :: As).toArray) free := by
  obtain ⟨⟨hrc, hrs, hfr, hlo, hws, hcw⟩, hcode, hini, hy, hlen, hl, hin, hse⟩ := cw
  have hK : Back l R p e below s args y 3 8 (PreOf R mc ms Pc) (PostOf Qc mc ms free) := va_backW (hh := hh) (bytes := bytes) (maxL := maxL) (ret := ret) hM hp.1 hrc hrs hfr hlo hws hcw (fun a' U hW => word_at hW (Or.inl (by first | rfl | simp [Cond.onTables, Cond.keeps, Cond.steady])) hini)
  obtain ⟨hx, hb, hml, ho, -⟩ := S
  obtain ⟨-, ⟨cellB, hcB, hoB, hclB⟩, hPc⟩ := hp
  intro T hT X
  obtain ⟨v, vm₁, ⟨U', l2, c2, s2⟩, hW₁, X', ⟨g', mk, t, L, e1, e2, hq, h1, hL, h2, h3⟩, st⟩ := vx_callVW X hx (C := C) (hh := hh) (bytes := bytes) (maxL := maxL) (ret := ret) ho hl hin hse hcode hy hK (by rw [hT]; exact hcB) hoB hclB hg (hsize.trans hml.symm) (argsL := As) (rest := rest) (fun sig h => hn.trans (hlen sig h)) hstack hW (by rw [hb]; exact hdg)
    (fun vm₁ hW₁ => ⟨hf.1, hf.2, hPc (T.setVm vm₁) hT hW₁⟩)
  dsimp only [Pt.U, Pt.locs, Pt.cells, Pt.slots] at X' e1 e2 h1 h2 h3 st
  subst h1; subst h2; subst h3
  exact ⟨v, (T.setVm vm₁).calling g' mk (Value.ref b :: As).toArray, t, U', L, hT, X', hL, e1, e2, hq, st⟩
section
variable {y : MethodName} {bytes cc : ByteArray} {maxL nL mc ms n index : Nat} {ret : Option FieldType} {ws : List Cond} {rm : Room} {Pc : Array Value → State → Prop} {Qc : Array Value → State → Outcome → State → Prop} {XC : String → State → State → Prop} {free : Addr → Prop} {Ts : List Cond} {own C : String} {b : Addr} {As rest : List Value} {g : JFrame}
theorem vx_runVX {hh : List (Nat × Nat × Nat × Nat)} (S : CallFix p m c cc nL s args Ts own) (hM : vx_Met l y ws rm Pc Qc XC mc ms free) (cw : vx_CVW R s args own C index y bytes maxL ret hh ws rm mc ms n) (hp : PreV s H C b Pc As)
    (hg : g.method = m) (hn : As.length = n) (hsize : g.locals.size = nL) (hstack : g.stack = As.reverse ++ .ref b :: rest) (hW : 2 * g.monitorRoom + (rest.map fun v => v.category).sum ≤ 8) (hdg : decode cc g.pc = .ok (.invokevirtual index, 3)) (hf : cells + mc ≤ R.cells ∧ slots + ms ≤ R.slots) :
    vx_Run p l e R s m args below meth c H locs cells slots mc ms g rest (Qc (Value.ref b :: As).toArray) XC free := by
  obtain ⟨⟨hrc, hrs, hfr, hlo, hws, hcw⟩, hcode, hini, hy, hlen, hl, hin, hse⟩ := cw
  have hK : vx_Back l R p e below s args y 3 8 (PreOf R mc ms Pc) (PostOf Qc mc ms free) (vx_Post XC mc ms free) := vx_backW (hh := hh) (bytes := bytes) (maxL := maxL) (ret := ret) hM hp.1 hrc hrs hfr hlo hws hcw (fun a' U hW => word_at hW (Or.inl (by first | rfl | simp [Cond.onTables, Cond.keeps, Cond.steady])) hini)
  obtain ⟨hx, hb, hml, ho, -⟩ := S
  obtain ⟨-, ⟨cellB, hcB, hoB, hclB⟩, hPc⟩ := hp
  intro T hT X
  rcases vx_callVX X hx (C := C) (hh := hh) (bytes := bytes) (maxL := maxL) (ret := ret) ho hl hin hse hcode hy hK (by rw [hT]; exact hcB) hoB hclB hg (hsize.trans hml.symm) (argsL := As) (rest := rest) (fun sig h => hn.trans (hlen sig h)) hstack hW (by rw [hb]; exact hdg)
    (fun vm₁ hW₁ => ⟨hf.1, hf.2, hPc (T.setVm vm₁) hT hW₁⟩) with ⟨v, vm₁, ⟨U', l2, c2, s2⟩, hW₁, X', ⟨g', mk, t, L, e1, e2, hq, h1, hL, h2, h3⟩, st⟩ | ⟨q, vm₁, ⟨U', l2, c2, s2⟩, hW₁, X', ⟨g', mk, t, L, E, ce, e1, e2, hq, hce, hcv, hcl, h1, hL, h2, h3⟩, st⟩
  · dsimp only [Pt.U, Pt.locs, Pt.cells, Pt.slots] at X' e1 e2 h1 h2 h3 st
    subst h1; subst h2; subst h3
    exact Or.inl ⟨v, (T.setVm vm₁).calling g' mk (Value.ref b :: As).toArray, t, U', L, hT, X', hL, e1, e2, hq, st⟩
  · dsimp only [Pt.U, Pt.locs, Pt.cells, Pt.slots] at X' e1 e2 h1 h2 h3 st hcl
    subst h1; subst h2; subst h3
    exact Or.inr ⟨q, (T.setVm vm₁).calling g' mk (Value.ref b :: As).toArray, t, U', L, E, ce, hT, X', hL, e1, e2, hq, hce, hcv, vx_cls hW₁ hcl, st⟩
theorem vx_runSX {hh : List (Nat × Nat × Nat × Nat)} (S : CallFix p m c cc nL s args Ts own) (hM : vx_Met l y ws rm Pc Qc XC mc ms free) (cw : vx_CSW R s args own index y bytes maxL ret hh ws rm mc ms n) (hp : PreS s H Pc As)
    (hg : g.method = m) (hn : As.length = n) (hsize : g.locals.size = nL) (hstack : g.stack = As.reverse ++ rest) (hW : 2 * g.monitorRoom + (rest.map fun v => v.category).sum ≤ 8) (hdg : decode cc g.pc = .ok (.invokestatic index, 3)) (hf : cells + mc ≤ R.cells ∧ slots + ms ≤ R.slots) :
    vx_Run p l e R s m args below meth c H locs cells slots mc ms g rest (Qc As.toArray) XC free := by
  obtain ⟨⟨hrc, hrs, hfr, hlo, hws, hcw⟩, hcode, hini, hy, hlen, hl, hstt⟩ := cw
  have hK : vx_Back l R p e below s args y 3 8 (PreOf R mc ms Pc) (PostOf Qc mc ms free) (vx_Post XC mc ms free) := vx_backW (hh := hh) (bytes := bytes) (maxL := maxL) (ret := ret) hM hp.1 hrc hrs hfr hlo hws hcw (fun a' U hW => word_at hW (Or.inl (by first | rfl | simp [Cond.onTables, Cond.keeps, Cond.steady])) hini)
  obtain ⟨hx, hb, hml, ho, -⟩ := S
  intro T hT X
  rcases vx_callSX X hx (hh := hh) (bytes := bytes) (maxL := maxL) (ret := ret) ho hl hstt hini hcode hy hK hg (hsize.trans hml.symm) (argsL := As) (rest := rest) (fun sig h => hn.trans (hlen sig h)) hstack hW (by rw [hb]; exact hdg)
    (fun vm₁ hW₁ => ⟨hf.1, hf.2, hp.2 (T.setVm vm₁) hT hW₁⟩) with ⟨v, vm₁, ⟨U', l2, c2, s2⟩, hW₁, X', ⟨g', mk, t, L, e1, e2, hq, h1, hL, h2, h3⟩, st⟩ | ⟨q, vm₁, ⟨U', l2, c2, s2⟩, hW₁, X', ⟨g', mk, t, L, E, ce, e1, e2, hq, hce, hcv, hcl, h1, hL, h2, h3⟩, st⟩
  · dsimp only [Pt.U, Pt.locs, Pt.cells, Pt.slots] at X' e1 e2 h1 h2 h3 st
    subst h1; subst h2; subst h3
    exact Or.inl ⟨v, (T.setVm vm₁).calling g' mk As.toArray, t, U', L, hT, X', hL, e1, e2, hq, st⟩
  · dsimp only [Pt.U, Pt.locs, Pt.cells, Pt.slots] at X' e1 e2 h1 h2 h3 st hcl
    subst h1; subst h2; subst h3
    exact Or.inr ⟨q, (T.setVm vm₁).calling g' mk As.toArray, t, U', L, E, ce, hT, X', hL, e1, e2, hq, hce, hcv, vx_cls hW₁ hcl, st⟩
end
end VXH
theorem vx_ofWH {l : Launch} {y : MethodName} {ws ws' : List Cond} {rm : Room} {Pc : Array Value → State → Prop} {Qc : Array Value → State → Outcome → State → Prop} {XC : String → State → State → Prop} {mc ms : Nat} {free : Addr → Prop} {cc : ByteArray} {maxL : Nat} {ret : Option FieldType} {hh : List (Nat × Nat × Nat × Nat)}
    (hy : plainName y.cls = true) (hw : ws = Cond.codeWith y cc maxL ret hh :: ws')
    (body : ∀ p e s m args below meth c s₁, BodyLoose p l y (headSpec ws rm) cc maxL ret e s m args below meth c s₁ → c.maxLocals = maxL → Pc args s →
      W p l e (headSpec ws rm).room s m args below meth c s.heap [] 0 0 (vx_MQ below Qc XC args s mc ms free) (entryFrame m args maxL)) : vx_Met l y ws rm Pc Qc XC mc ms free := by
  refine MetFree.of_bodyS (code := cc) (maxLocals := maxL) (ret := ret) hy ?_ ?_
  · intro args s m h hn
    obtain ⟨m9, meth, c, hn9, h1, h2, h3, h4, -, h5, h6, -⟩ := Cond.codeWith_spec (atoms_spec (ws := ws) h _ (by rw [hw]; exact List.mem_cons_self))
    cases hn.symm.trans hn9
    exact ⟨meth, c, h1, h2, h3, h4, h5, h6⟩
  · intro p e s m args below meth c s₁ B hml hP _
    have hh0 : s₁.heap = s.heap := by rw [B.state]; rfl
    obtain ⟨t, a1, o, b1, b2, b3⟩ := body p e s m args below meth c s₁ B hml hP s₁ hh0 (Stand.of_body B)
    exact ⟨t, o, a1, b1, b2, b3⟩
/-! ===== END ===== -/
end
section
/-! WHAT THROWS: premises of the start; shapes -/
def pgB : List Cond := [Cond.declares ⟨"java/lang/RuntimeException", "<init>", "(Ljava/lang/String;)V"⟩, Cond.declares ⟨"java/lang/Exception", "<init>", "(Ljava/lang/String;)V"⟩, Cond.declares ⟨"java/lang/Throwable", "<init>", "(Ljava/lang/String;)V"⟩, Cond.castable "java/lang/IllegalArgumentException" "java/lang/IllegalArgumentException", Cond.castable "java/lang/IllegalStateException" "java/lang/IllegalStateException", Cond.castable "java/lang/IndexOutOfBoundsException" "java/lang/IndexOutOfBoundsException", Cond.castable "java/lang/UnsupportedOperationException" "java/lang/UnsupportedOperationException", Cond.castable "java/util/NoSuchElementException" "java/util/NoSuchElementException"]
def pgT : List (Nat × String) := [(44, "not 1 to 8 bytes"), (51, "the tape has no place for these bytes"), (60, "no such file, or not 1 to 16 times"), (78, "not enough pages for these bytes"), (89, "no such file number"), (97, "the file is not there"), (100, "not 0 to the file's size"), (123, "keep is below 0"), (141, "no such file number, or nothing to be asked of it"), (151, "no such byte")]
def pgN : List (String × String) := [("java/lang/IllegalArgumentException", "java/lang/IllegalStateException"), ("java/lang/IllegalArgumentException", "java/lang/IndexOutOfBoundsException"), ("java/lang/IllegalArgumentException", "java/lang/UnsupportedOperationException"), ("java/lang/IllegalArgumentException", "java/util/NoSuchElementException"), ("java/lang/IllegalStateException", "java/lang/IllegalArgumentException"), ("java/lang/IllegalStateException", "java/lang/IndexOutOfBoundsException"), ("java/lang/IllegalStateException", "java/lang/UnsupportedOperationException"), ("java/lang/IllegalStateException", "java/util/NoSuchElementException"), ("java/lang/IndexOutOfBoundsException", "java/lang/IllegalArgumentException"), ("java/lang/IndexOutOfBoundsException", "java/lang/IllegalStateException"), ("java/lang/IndexOutOfBoundsException", "java/lang/UnsupportedOperationException"), ("java/lang/IndexOutOfBoundsException", "java/util/NoSuchElementException"), ("java/lang/UnsupportedOperationException", "java/lang/IllegalArgumentException"), ("java/lang/UnsupportedOperationException", "java/lang/IllegalStateException"), ("java/lang/UnsupportedOperationException", "java/lang/IndexOutOfBoundsException"), ("java/lang/UnsupportedOperationException", "java/util/NoSuchElementException"), ("java/util/NoSuchElementException", "java/lang/IllegalArgumentException"), ("java/util/NoSuchElementException", "java/lang/IllegalStateException"), ("java/util/NoSuchElementException", "java/lang/IndexOutOfBoundsException"), ("java/util/NoSuchElementException", "java/lang/UnsupportedOperationException")]
abbrev pgNm : List String := ["java/lang/RuntimeException", "java/lang/Exception"]
def pg_K (U : State) : Prop := (∀ w ∈ pgB, va_Nw w U) ∧ (∀ q ∈ pgT, ∃ a, vk_R "PageDrive" q.1 q.2 a U) ∧ ∀ q ∈ pgN, va_Nc q.1 q.2 U
theorem pgB_ot : ∀ w ∈ pgB, w.onTables = true := by decide +kernel
theorem pgB_warm {s U : State} (hW : s.WarmedH U.vm) (h : ∀ w ∈ pgB, va_Nw w s) : ∀ w ∈ pgB, va_Nw w U := by
  intro w hw
  have h0 := h w hw
  unfold pgB at hw
  rcases List.mem_cons.mp hw with e | hw
  · rw [e] at h0 ⊢
    exact va_Nw.warmD hW h0
  rcases List.mem_cons.mp hw with e | hw
  · rw [e] at h0 ⊢
    exact va_Nw.warmD hW h0
  rcases List.mem_cons.mp hw with e | hw
  · rw [e] at h0 ⊢
    exact va_Nw.warmD hW h0
  rcases List.mem_cons.mp hw with e | hw
  · rw [e] at h0 ⊢
    exact va_Nw.warmC hW h0
  rcases List.mem_cons.mp hw with e | hw
  · rw [e] at h0 ⊢
    exact va_Nw.warmC hW h0
  rcases List.mem_cons.mp hw with e | hw
  · rw [e] at h0 ⊢
    exact va_Nw.warmC hW h0
  rcases List.mem_cons.mp hw with e | hw
  · rw [e] at h0 ⊢
    exact va_Nw.warmC hW h0
  rcases List.mem_cons.mp hw with e | hw
  · rw [e] at h0 ⊢
    exact va_Nw.warmC hW h0
  exact absurd hw List.not_mem_nil
theorem pg_K.warm {s U : State} (hW : s.WarmedH U.vm) (h : pg_K s) : pg_K U := ⟨pgB_warm hW h.1, fun q hq => by
  obtain ⟨a, ha⟩ := h.2.1 q hq
  exact ⟨a, vk_R.warm hW ha⟩, fun q hq => va_Nc.moved hW.alike (h.2.2 q hq)⟩
theorem pg_K.same {u U : State} (hv : U.vm = u.vm) (h : pg_K u) : pg_K U := ⟨fun w hw => va_Nw.same (pgB_ot w hw) hv.symm (h.1 w hw), fun q hq => by
  obtain ⟨a, ha⟩ := h.2.1 q hq
  exact ⟨a, vk_R.same hv ha⟩, fun q hq => va_Nc.moved (by rw [hv]; exact Vm.Alike.refl u.vm) (h.2.2 q hq)⟩
def pg_Z (A : Nat → Prop) (U : State) (H : Heap) : Prop := vx_Zq Bundle.tN "UNASSIGNED_STACK" Bundle.steD A U H ∧ vx_Zq Bundle.tN "SUPPRESSED_SENTINEL" Bundle.listD A U H
theorem pg_Z.moved {A : Nat → Prop} {u U : State} {H : Heap} (hvm : u.vm.Alike U.vm) (h : pg_Z A u H) : pg_Z A U H := ⟨vx_Zq.moved hvm h.1, vx_Zq.moved hvm h.2⟩
theorem pg_Z.kept {A : Nat → Prop} {U : State} {H H1 : Heap} (h : pg_Z A U H) (hq : ∀ a : Nat, a < H.size → ¬ A a → H1[a]? = H[a]?) : pg_Z A U H1 := ⟨vx_Zq.kept h.1 hq, vx_Zq.kept h.2 hq⟩
theorem pg_Z.narrow {A B : Nat → Prop} {U : State} {H : Heap} (h : pg_Z A U H) (hAB : ∀ q, B q → A q) : pg_Z B U H := ⟨vx_Zq.narrow h.1 hAB, vx_Zq.narrow h.2 hAB⟩
theorem xa_46 : ∀ w ∈ vx_atS "PageDrive" 46 "java/lang/IllegalArgumentException" pgNm, w ∈ wsG ∨ w ∈ pgB := by decide +kernel
theorem xo_46 : ∀ w ∈ Cond.classLink "PageDrive" 42 "java/lang/IllegalArgumentException" :: Cond.initialized "java/lang/IllegalArgumentException" :: vx_atS "PageDrive" 46 "java/lang/IllegalArgumentException" pgNm, vx_ot w = true := by decide +kernel
theorem xf_46 : Bundle.fit "java/lang/IllegalArgumentException" = true := by decide +kernel
theorem xa_53 : ∀ w ∈ vx_atS "PageDrive" 53 "java/lang/IllegalStateException" pgNm, w ∈ wsG ∨ w ∈ pgB := by decide +kernel
theorem xo_53 : ∀ w ∈ Cond.classLink "PageDrive" 49 "java/lang/IllegalStateException" :: Cond.initialized "java/lang/IllegalStateException" :: vx_atS "PageDrive" 53 "java/lang/IllegalStateException" pgNm, vx_ot w = true := by decide +kernel
theorem xf_53 : Bundle.fit "java/lang/IllegalStateException" = true := by decide +kernel
theorem xa_62 : ∀ w ∈ vx_atS "PageDrive" 62 "java/lang/IndexOutOfBoundsException" pgNm, w ∈ wsG ∨ w ∈ pgB := by decide +kernel
theorem xo_62 : ∀ w ∈ Cond.classLink "PageDrive" 58 "java/lang/IndexOutOfBoundsException" :: Cond.initialized "java/lang/IndexOutOfBoundsException" :: vx_atS "PageDrive" 62 "java/lang/IndexOutOfBoundsException" pgNm, vx_ot w = true := by decide +kernel
theorem xf_62 : Bundle.fit "java/lang/IndexOutOfBoundsException" = true := by decide +kernel
theorem xa_80 : ∀ w ∈ vx_atS "PageDrive" 80 "java/lang/UnsupportedOperationException" pgNm, w ∈ wsG ∨ w ∈ pgB := by decide +kernel
theorem xo_80 : ∀ w ∈ Cond.classLink "PageDrive" 76 "java/lang/UnsupportedOperationException" :: Cond.initialized "java/lang/UnsupportedOperationException" :: vx_atS "PageDrive" 80 "java/lang/UnsupportedOperationException" pgNm, vx_ot w = true := by decide +kernel
theorem xf_80 : Bundle.fit "java/lang/UnsupportedOperationException" = true := by decide +kernel
theorem xn_nm : ∀ n ∈ pgNm, Bundle.fit n = true := by decide +kernel
theorem pg_hat {args : Array Value} {s : State} {L : List Cond} (hL : ∀ w ∈ L, w ∈ wsG ∨ w ∈ pgB) (hg : ∀ w ∈ wsG, w.before args s = true) (hB : ∀ w ∈ pgB, va_Nw w s) : ∀ w ∈ L, w.before args s = true := fun w h => (hL w h).elim (hg w) (fun h => va_Nw.use (pgB_ot w h) (hB w h))
def px_pre (D : va_G) (tys : List (ClassId × FieldType)) (Wd : va_W) (sz : Nat) : State → Prop := fun U => pw_pre D tys Wd sz U ∧ pg_K U ∧ pg_Z (va_A Wd sz) U U.heap
section PX
variable {p : Program} {l : Launch} {e : Env} {R : Room} {s : State} {m : MethodId} {args : Array Value} {below : List Frame} {meth : Method} {c : Code} {H : Heap} {locs : List Loc} {cells slots : Nat} {Q : State → Prop}
variable {D : va_G} {tys : List (ClassId × FieldType)} {Wd : va_W} {A : Nat → Prop} {H0 : Heap}
theorem px_blind (av : List Value) (sz : Nat) : FrameBlind (va_Pc av (px_pre D tys Wd sz)) := fun a U g mk q => by
  obtain ⟨q0, q1, q2, q3⟩ := q
  exact ⟨q0, (pw_blind av sz a U g mk ⟨q0, q1⟩).2, pg_K.same (u := U) (U := U.calling g mk a) rfl q2, q3.moved (u := U) (U := U.calling g mk a) (Vm.Alike.refl U.vm)⟩
theorem px_pv (hK : va_K D pwCl tys s) (hP : va_P D pwCl Wd H) (hD : va_D A Wd) (hKK : pg_K s) (hZ : pg_Z (va_A Wd H.size) s H) {C : String} {b : Addr} (hrec : ∃ cell : Cell, H[b]? = some cell ∧ cell.vm.isStatics = false ∧ s.vm.findClass C = some cell.cls) (As : List Value) : PreV s H C b (va_Pc (.ref b :: As) (px_pre D tys Wd H.size)) As := ⟨px_blind _ _, hrec, fun U hU hW => ⟨rfl, ⟨by rw [hU], by rw [hU]; exact hP, va_K.moved hW.alike hK, hD.weaken (fun _ _ _ _ => trivial)⟩, pg_K.warm hW hKK, by rw [hU]; exact hZ.moved hW.alike⟩⟩
theorem px_end {σ : Type} {Wf : σ → va_W} {u : σ} (hK : va_K D pwCl tys s) (hP : va_P D pwCl (Wf u) H) (hD : va_D A (Wf u)) (hS : va_S A s.heap H locs) (t : State) (hvm : s.vm.Alike t.vm) (hz : H.size ≤ t.heap.size) (hk : ∀ q : Nat, q < H.size → t.heap[q]? = H[q]?) : pw_pos D tys Wf A u t ∧ va_F A s t := by
  refine ⟨⟨hP.kept (fun k q h => hk q.1 (hP k q h).lt), va_K.moved hvm hK, hD⟩, Nat.le_trans hS.1 hz, fun q h1 h2 => ?_⟩
  rw [hk q (Nat.lt_of_lt_of_le h1 hS.1)]
  exact hS.2.1 q h1 h2
end PX
abbrev CXi (l : Launch) (D : va_G) (tys : List (ClassId × FieldType)) (y : MethodName) (w : List Cond) (rm : Room) (av : List Value) (Wd : va_W) {σ : Type} (Wf : σ → va_W) (sz : Nat) (post : Int32 → σ → Prop) (xp : String → σ → Prop) : Prop := vx_Met l y w rm (va_Pc av (px_pre D tys Wd sz)) (va_Qi post (pw_pos D tys Wf (va_A Wd sz)) (va_A Wd sz)) (vx_X (fun u : String × σ => xp u.1 u.2) (fun E u t => E = u.1 ∧ pw_pos D tys Wf (va_A Wd sz) u.2 t) (va_A Wd sz)) 1 6 (va_A Wd sz)
end
section
/-! PURE, 12: ints in a range; the tape fed -/
theorem pd_rng {k : Int32} {a b : Nat} (ha : a < 2 ^ 31) (hb : b < 2 ^ 31) (h1 : ¬ k < nI a) (h2 : ¬ nI b < k) : ∃ j : Nat, a ≤ j ∧ j ≤ b ∧ k = nI j := by
  have h0 : ¬ k < 0 := fun q => h1 (Int32.lt_of_lt_of_le q (nI_pos' ha))
  obtain ⟨j, hj, rfl⟩ := nI_of h0
  exact ⟨j, Nat.not_lt.mp fun q => h1 ((nI_ltI hj ha).mpr q), Nat.not_lt.mp fun q => h2 ((nI_ltI hb hj).mpr q), rfl⟩
theorem pd_below {k : Int32} {a : Nat} (h : k < nI a) (j : Nat) (h1 : a ≤ j) (h2 : j < 2 ^ 31) : k ≠ nI j := fun q => by
  subst q
  have := (nI_ltI h2 (by omega)).mp h
  omega
theorem pd_above {k : Int32} {b : Nat} (hb : b < 2 ^ 31) (h : nI b < k) (j : Nat) (h1 : j ≤ b) : k ≠ nI j := fun q => by
  subst q
  have := (nI_ltI hb (by omega)).mp h
  omega
def pd_tp (S : pdS) (x : Int64) (a : Nat) : Nat → pdS
  | 0 => S
  | m + 1 => pd_st (pd_tp S x a m) 3 (a + m) (pd_bv x m)
theorem pd_tp_bk {S : pdS} {x : Int64} {a b : Nat} (hb : b ≠ 3) : ∀ m, pd_tp S x a m b = S b
  | 0 => rfl
  | m + 1 => by
    simp only [pd_tp]
    rw [pd_bk _ hb, pd_tp_bk hb m]
/-- the tape behind feed -/
def pd_fd (S : pdS) (x : Int64) (j : Nat) : pdS := pd_st (pd_tp S x (S 7 2) j) 7 2 (S 7 2 + j)
theorem pd_tp_at {S : pdS} {x : Int64} {a i : Nat} : ∀ m, pd_tp S x a m 3 i = if a ≤ i ∧ i < a + m then pd_bv x (i - a) else S 3 i
  | 0 => by
    rw [if_neg (by omega)]
    rfl
  | m + 1 => by
    simp only [pd_tp]
    rw [pd_at]
    by_cases hi : i = a + m
    · subst hi
      rw [if_pos ⟨rfl, rfl⟩, if_pos (by omega), show a + m - a = m by omega]
    · rw [if_neg (fun q => hi q.2), pd_tp_at m]
      by_cases h : a ≤ i ∧ i < a + m
      · rw [if_pos h, if_pos (by omega)]
      · rw [if_neg h, if_neg (by omega)]
theorem pd_fd_v {S : pdS} {N : Nat} {x : Int64} {j : Nat} (hv : pd_v N S) (hj : S 7 2 + j ≤ 4096) : pd_v N (pd_fd S x j) := by
  have hb : ∀ b, b ≠ 3 → b ≠ 7 → pd_fd S x j b = S b := fun b h3 h7 => by
    unfold pd_fd
    rw [pd_bk _ h7, pd_tp_bk h3]
  obtain ⟨v1, v2, v3, v4, v5, v6⟩ := hv
  refine ⟨fun c hc => by rw [hb 4 (by decide) (by decide), hb 5 (by decide) (by decide)]; exact v1 c hc, fun c k hc hk => ?_, fun c d k i hc hd hk hi => ?_, ?_, fun i => ?_, by rw [hb 0 (by decide) (by decide)]; exact v6⟩
  · rw [hb 4 (by decide) (by decide)] at hk
    rw [hb (8 + c) (by omega) (by omega)]
    exact v2 c k hc hk
  · rw [hb 4 (by decide) (by decide)] at hk hi
    rw [hb (8 + c) (by omega) (by omega), hb (8 + d) (by omega) (by omega)]
    exact v3 c d k i hc hd hk hi
  · unfold pd_fd
    rw [pd_self]
    exact hj
  · unfold pd_fd
    rw [pd_bk _ (by decide), pd_tp_at]
    by_cases h : S 7 2 ≤ i ∧ i < S 7 2 + j
    · rw [if_pos h]
      exact pd_bv_lt _ _
    · rw [if_neg h]
      exact v5 i
theorem pd_fd_ct {S : pdS} {x : Int64} {j : Nat} (p : Nat) : pd_ct (pd_fd S x j) p = pd_ct S p := pd_ct_congr (by unfold pd_fd; rw [pd_bk _ (by decide), pd_tp_bk (by decide)]) (fun d _ k _ => by unfold pd_fd; rw [pd_bk _ (by omega), pd_tp_bk (by omega)]) p
theorem pd_fd_ok {S : pdS} {n : Nat} {x : Int64} {j : Nat} (h : pd_ok n S (pd_ct S)) : pd_ok n (pd_fd S x j) (pd_ct (pd_fd S x j)) := by
  refine pd_ok_congr (pd_ok_eqv h ?_ ?_ ?_) (fun p _ => (pd_fd_ct p).symm)
  · unfold pd_fd
    rw [pd_bk _ (by decide), pd_tp_bk (by decide)]
  · unfold pd_fd
    rw [pd_bk _ (by decide), pd_tp_bk (by decide)]
  · unfold pd_fd
    rw [pd_ne _ (by decide), pd_tp_bk (by decide)]
theorem pd_fd_eq {S Q : pdS} {x : Int64} {j : Nat} (e : pd_eq S Q) : pd_eq (pd_fd S x j) (pd_fd Q x j) := by
  have hb : ∀ (T : pdS) b, b ≠ 3 → b ≠ 7 → pd_fd T x j b = T b := fun T b h3 h7 => by
    unfold pd_fd
    rw [pd_bk _ h7, pd_tp_bk h3]
  have h71 : ∀ T : pdS, pd_fd T x j 7 1 = T 7 1 := fun T => by
    unfold pd_fd
    rw [pd_ne _ (by decide), pd_tp_bk (by decide)]
  have h72 : ∀ T : pdS, pd_fd T x j 7 2 = T 7 2 + j := fun T => by
    unfold pd_fd
    rw [pd_self]
  have h3e : ∀ (T : pdS) i, pd_fd T x j 3 i = if T 7 2 ≤ i ∧ i < T 7 2 + j then pd_bv x (i - T 7 2) else T 3 i := fun T i => by
    unfold pd_fd
    rw [pd_bk _ (by decide), pd_tp_at]
  obtain ⟨h1, h2, h3, h4, h5, h6, h7⟩ := e
  refine ⟨by rw [hb S 4 (by decide) (by decide), hb S 5 (by decide) (by decide), hb Q 4 (by decide) (by decide), hb Q 5 (by decide) (by decide)]; exact h1, by rw [hb S 6 (by decide) (by decide), hb Q 6 (by decide) (by decide)]; exact h2, by rw [h71, h71]; exact h3, by rw [h72, h72, h4], fun i hi => ?_, fun c d k hc hd hk hk2 => ?_, fun c i hc hi => ?_⟩
  · rw [h72] at hi
    rw [h3e, h3e, ← h4]
    by_cases h : S 7 2 ≤ i ∧ i < S 7 2 + j
    · rw [if_pos h, if_pos h]
    · rw [if_neg h, if_neg h]
      exact h5 i (by omega)
  · rw [hb S 4 (by decide) (by decide)] at hk hk2
    rw [hb S (8 + c) (by omega) (by omega), hb S (8 + d) (by omega) (by omega), hb Q (8 + c) (by omega) (by omega), hb Q (8 + d) (by omega) (by omega)]
    exact h6 c d k hc hd hk hk2
  · rw [hb S 4 (by decide) (by decide)] at hi
    rw [pd_by_congr (hb S 0 (by decide) (by decide)) (by rw [hb S (8 + c) (by omega) (by omega)]), pd_by_congr (hb Q 0 (by decide) (by decide)) (by rw [hb Q (8 + c) (by omega) (by omega)])]
    exact h7 c i hc hi
theorem pd_ap_0 {n : Nat} {S T S' : pdS} {c add : Nat} {tp : Nat → Nat} (hb : ∀ b, b ≠ 7 → T b = S b) (h71 : T 7 1 = S 7 1) (h : pd_ap n T S' c add tp) : pd_ap n S S' c add tp := by
  have hct : ∀ p, pd_ct T p = pd_ct S p := fun p => pd_ct_congr (hb 4 (by decide)) (fun d _ k _ => by rw [hb (8 + d) (by omega)]) p
  have hr : ∀ d, T (8 + d) = S (8 + d) := fun d => hb (8 + d) (by omega)
  have hcp : pd_cp T c add ↔ pd_cp S c add := by
    unfold pd_cp
    rw [hb 4 (by decide), hr c, hct]
  have hnw : ∀ k, pd_nw T c add k ↔ pd_nw S c add k := fun k => by
    unfold pd_nw
    rw [hcp, hb 4 (by decide)]
  have hby : ∀ d i, pd_by T d i = pd_by S d i := fun d i => by
    unfold pd_by
    rw [hb 0 (by decide), hr d]
  obtain ⟨e4, e5, e6, e71, e72, eo, ec, en, ei, eb, et, e3, e0⟩ := h
  rw [hb 4 (by decide)] at e4 eo ec eb et
  rw [hb 5 (by decide)] at e5
  rw [hb 6 (by decide)] at e6
  rw [hcp, h71] at e71
  refine ⟨e4, e5, e6, e71, e72, fun d k hd hdc hk => by rw [← hr d]; exact eo d k hd hdc hk, fun k hk hn => by rw [← hr c]; exact ec k hk (by rw [hcp]; exact hn), fun k hk => by rw [← hct]; exact en k ((hnw k).mpr hk), fun k j hk hj => ei k j ((hnw k).mpr hk) ((hnw j).mpr hj), fun d i hd hi => by rw [← hby]; exact eb d i hd hi, et, e3, e0⟩
theorem pd_gw_row {n : Nat} {S X : pdS} {c add : Nat} (hc : c < 32) (hv : pd_v n S) (h : pd_gw n S X c add) {k : Nat} (hk : k < pd_pf (S 4 c + add)) : X (8 + c) k < n := by
  obtain ⟨g4, g5, g6, g3, g71, g72, go, gold, gnew, -⟩ := h
  by_cases hn : pd_nw S c add k
  · exact (gnew k hn).1
  · have h1 : k < pd_pf (S 4 c) := Nat.not_le.mp (fun q => hn ⟨hk, Or.inl q⟩)
    rw [gold k h1 (fun q => hn ⟨hk, Or.inr q⟩)]
    exact hv.2.1 c k hc h1
theorem pd_min {a b : Nat} (ha : a < 2 ^ 31) (hb : b < 2 ^ 31) : (if nI b < nI a then nI b else nI a) = nI (if b < a then b else a) := by
  by_cases h : b < a
  · rw [if_pos h, if_pos ((nI_ltI hb ha).mpr h)]
  · rw [if_neg h, if_neg (fun q => h ((nI_ltI hb ha).mp q))]
theorem pd_fal_lo {S S' : pdS} {i k : Nat} (h : pd_fal S S' i k) (hi : i < 16) (hl : pd_lo S) : pd_lo S' := by
  obtain ⟨T, h1, U, h2, h3⟩ := h
  have hT : (∀ d, d ≠ 2 * i → T 4 d = S 4 d) ∧ T 6 = S 6 := by
    rcases h1 with ⟨-, a⟩ | ⟨-, -, a⟩ | ⟨-, -, a⟩
    · exact ⟨fun d hd => by rw [a.2.2.1, va_up_ne _ _ hd], a.2.2.2.2.1⟩
    · exact ⟨fun d hd => by rw [a.2.2.1, va_up_ne _ _ hd], a.2.2.2.2.1⟩
    · exact ⟨fun d _ => by rw [a.2.2.1], a.2.2.2.2.1⟩
  intro j hj
  have h64 : U 4 (2 * j) = T 4 (2 * j) := by rw [h2.2.2.1, va_up_ne _ _ (by omega)]
  rw [h3.2.2.1, h3.2.2.2.2.1, pd_bk _ (show (4 : Nat) ≠ 6 by decide), pd_own, h64]
  by_cases hji : j = i
  · subst hji
    rw [va_up_self]
    exact Nat.le_refl _
  · rw [va_up_ne _ _ hji, h2.2.2.2.2.1, hT.2, hT.1 _ (by omega)]
    exact hl j hj
theorem pd_fal_v {S S' : pdS} {N i k : Nat} (h : pd_fal S S' i k) (hi : i < 16) (hv : pd_v N S) : pd_v N S' := by
  obtain ⟨T, h1, h2⟩ := h
  refine (pd_set_v h2 hi ?_).1
  rcases h1 with ⟨-, a⟩ | ⟨-, b, a⟩ | ⟨-, -, a⟩
  · exact pd_be_v a (by omega) hv
  · exact pd_sh_v a (by omega) hv
  · exact pd_sa_v a hv
/-- the first m files crash; what is drawn goes from x to y -/
def pd_al (S : pdS) (x : Int64) : Nat → pdS → Int64 → Prop
  | 0, S', y => pd_sa S S' ∧ y = x
  | m + 1, S', y => ∃ T z, pd_al S x m T z ∧ y = z * 6364136223846793005 + 1442695040888963407 ∧ pd_fal T S' m (pd_kp y (T 4 (2 * m)) (T 6 m))
/-- what file(f, w) answers -/
def pd_fi (S : pdS) (i w : Nat) : Nat := if w = 0 then S 4 (2 * i) else if w = 1 then S 4 (2 * i + 1) else if w = 2 then S 6 i else if w = 3 then S 5 (2 * i) else if w = 4 then S 5 (2 * i + 1) else if w = 5 then pd_pf (S 4 (2 * i)) else if w = 6 then pd_pf (S 4 (2 * i + 1)) else pd_shd S (2 * i)
theorem pd_sw {z : Int32} {b : Nat} (hb : b < 2 ^ 31) (h : ∀ w, w ≤ b → z ≠ nI w) : z.toInt < 0 ∨ (b : Int) < z.toInt := by
  by_cases h0 : z < 0
  · left
    rw [Int32.lt_iff_toInt_lt] at h0
    exact h0
  · right
    obtain ⟨j, hj, rfl⟩ := nI_of h0
    rw [nI_toInt hj]
    by_cases hjb : j ≤ b
    · exact absurd rfl (h j hjb)
    · omega
/-- what count(w) answers -/
def pd_co (n u : Nat) (S : pdS) (w : Nat) : Nat := if w = 0 then u else if w = 1 then n else if w = 2 then S 7 1 else if w = 3 then S 7 2 else pd_th S
end
section
/-! WHAT THROWS, 2: NoSuchElementException, whose constructor has another entry of the pool -/
section NSE
variable {p : Program} {l : Launch} {e : Env} {R : Room} {s : State} {m : MethodId} {args : Array Value} {below : List Frame} {meth : Method} {c : Code} {H : Heap} {locs : List Loc} {cells slots : Nat}
variable {Qc : Array Value → State → Outcome → State → Prop} {XC : String → State → State → Prop} {free : Addr → Prop} {ls : Array Slot} {rest : List Value}
theorem vx_throwNS {cc : ByteArray} {pc : Nat} (hexec : p.tables.exec = Jvm.exec) (hb : c.code = cc) (hl : l.stackTraces = false) {text : String} {is mc ms sa : Nat} {A : Nat → Prop}
    (hown : s.vm.findClass "PageDrive" = some m.cls)
    (hk : (Cond.classLink "PageDrive" 95 "java/util/NoSuchElementException").before args s = true) (hini : (Cond.initialized "java/util/NoSuchElementException").before args s = true) (hstr : vk_R "PageDrive" is text sa s) (hg : ∀ w ∈ wsG, w.before args s = true) (hB : ∀ w ∈ pgB, va_Nw w s)
    (hU : vx_Zq Bundle.tN "UNASSIGNED_STACK" Bundle.steD A s s.heap) (hN : vx_Zq Bundle.tN "SUPPRESSED_SENTINEL" Bundle.listD A s s.heap) (hS : va_S A s.heap H locs) (hsize : ls.size = c.maxLocals)
    (d0 : decode cc pc = .ok (.new 95, 3)) (d3 : decode cc (pc + 3) = .ok (.dup, 1)) (d4 : decode cc (pc + 4) = .ok (.ldc is, 2)) (d6 : decode cc (pc + 6) = .ok (.invokespecial 99, 3)) (d9 : decode cc (pc + 9) = .ok (.athrow, 1))
    (hout : ∀ x ∈ c.exceptionTable.toList, covers x (pc + 9) = false)
    (hRframes : 2 + 3 < R.frames) (hRlocals : (rest.map fun v => v.category).sum + (13 * (2 + 1) + 43) ≤ R.locals) (hRcells : cells + 1 ≤ R.cells) (hRslots : slots + 6 ≤ R.slots) (hlocks : meth.locks = false)
    (hx : ∀ t : State, s.vm.Alike t.vm → H.size ≤ t.heap.size → (∀ q : Nat, q < H.size → t.heap[q]? = H[q]?) → XC "java/util/NoSuchElementException" s t)
    (hf : ∀ z ∈ locs, free z.base) (hc : cells + 1 ≤ mc) (hs : slots + 6 ≤ ms) :
    W p l e R s m args below meth c H locs cells slots (vx_MQ below Qc XC args s mc ms free) (F0 m pc ls rest) := by
  sorry
end NSE
end
section
/-! THE CLASS, 1: isFile, pagesFor, the pool's steps, placeOf -/
section PC2
variable {p : Program} {l : Launch} {e : Env} {R : Room} {s : State} {m : MethodId} {args : Array Value} {below : List Frame} {meth : Method} {c : Code} {H : Heap} {locs : List Loc} {cells slots : Nat} {Q : State → Prop}
variable {D : va_G} {tys : List (ClassId × FieldType)} {Wd : va_W} {A : Nat → Prop} {H0 : Heap} {pc : Nat} {ls : Array Slot} {rest st0 : List Value} {a : Array Value} {mc ms : Nat}
theorem pw_callip {post : Int32 → Prop} (hr : va_Run p l e R s m args below meth c H locs cells slots mc ms (F0 m pc ls st0) rest (va_Qi (fun r (_ : Unit) => post r) (pw_pos D tys (fun _ : Unit => Wd) (va_A Wd H.size)) (va_A Wd H.size) a) (va_A Wd H.size)) (hD : va_D A Wd) (hS : va_S A H0 H locs) (hA : ∀ q, H0.size ≤ q → A q) (kk : ∀ (r : Int32) (H1 : Heap) (locs1 : List Loc), post r → va_P D pwCl Wd H1 → va_D A Wd → va_S A H0 H1 locs1 → W p l e R s m args below meth c H1 locs1 (cells + mc) (slots + ms) Q (F0 m (pc + 3) ls (.int r :: rest))) : W p l e R s m args below meth c H locs cells slots Q (F0 m pc ls st0) := pw_calli hr hD hS hA (fun r _ H1 locs1 h1 h2 h3 h4 => kk r H1 locs1 h1 h2 h3 h4)
end PC2
def pd_nof (x : Int32) : Prop := ∀ f : Nat, f < 16 → x ≠ nI f
set_option maxHeartbeats 4000000 in
set_option maxRecDepth 100000 in
/-- isFile(x): whether 0 <= x < 16 -/
theorem c_PD_isFile (l : Launch) (dC : Nat → ClassId) (dI : Nat → Nat → Nat) (cI cB cE cL cZ : ClassId) (Wd : va_W) (x : Int32) (sz : Nat) : CMi l (dC, dI) (pw_ty cI cB cE cL cZ) y_PD_isFile w_PD_isFile ({ frames := 0, cells := 0, slots := 0, locals := 0 }) [.int x] (Wd) (fun _ : Unit => Wd) sz (fun r _ => (∃ f : Nat, f < 16 ∧ x = nI f ∧ r = nI 1) ∨ (pd_nof x ∧ r = nI 0)) := by
  refine Met.ofW (cc := b_PD_isFile) (maxL := 1) (ret := (some .boolean)) (by decide) rfl ?_
  intro p e s m args below meth c s₁ B hml hv
  obtain ⟨rfl, hsz, hP, hK, hD0⟩ := hv
  have hx := B.exec
  have hb := B.bytes
  have hret := B.returns
  have hts := atoms_spec (ws := w_PD_isFile) B.pre
  have hg : ∀ w ∈ wsG, w.before _ s = true := fun w h => hts w (List.mem_cons_of_mem _ h)
  have hown : s.vm.findClass "PageDrive" = some m.cls := findClass_of_methodNamed B.named
  have hlocks := B.notSynchronized
  subst hsz
  have hD := hD0.self (sz := s.heap.size)
  generalize hAe : va_A (Wd) s.heap.size = A at hD ⊢
  have hA : ∀ q : Nat, s.heap.size ≤ q → A q := fun q h => by rw [← hAe]; exact Or.inr h
  have hS : va_S A s.heap s.heap [] := va_S.rf
  have hl := lv_entry ([.int x]) (n := 1) (Nat.le_of_ble_eq_true rfl)
  rw [lg_entry_eq]
  generalize (lg_sl ([.int x]) ++ List.replicate (1 - (lg_sl ([.int x])).length) Slot.unset).toArray = ls at hl ⊢
  have hl : lv_has ls 1 [(0, .int x)] := hl
  refine lv_iload_n hx hb d_PD_isFile_0 rfl (lv_at hl 0 rfl) ?_
  refine lv_if_lt (tgt := 14) hx hb d_PD_isFile_1 (by decide) (fun h1 => ?_) (fun h1 => ?_)
  · refine lv_iconst (v := nI 0) hx hb d_PD_isFile_14 (by decide) ?_
    exact W.zret (v := (nI 0)) hx hb hret rfl (fun t9 ht9 hW9 => ⟨⟨_, (), rfl, Or.inr ⟨fun f hf q => by subst q; exact nI_pos (by omega) h1, rfl⟩, by rw [ht9]; exact hP, va_K.moved hW9.alike hK, hD⟩, hS.F ht9⟩) hS.2.2 d_PD_isFile_15
  · refine lv_iload_n hx hb d_PD_isFile_4 rfl (lv_at hl 0 rfl) ?_
    refine lv_bipush (v := nI 16) hx hb d_PD_isFile_5 (by decide) ?_
    refine lv_icmp_ge (tgt := 14) hx hb d_PD_isFile_7 (by decide) (fun h2 => ?_) (fun h2 => ?_)
    · refine lv_iconst (v := nI 0) hx hb d_PD_isFile_14 (by decide) ?_
      exact W.zret (v := (nI 0)) hx hb hret rfl (fun t9 ht9 hW9 => ⟨⟨_, (), rfl, Or.inr ⟨fun f hf q => by subst q; have h9 := (nI_leI (by omega) (by omega)).mp h2; omega, rfl⟩, by rw [ht9]; exact hP, va_K.moved hW9.alike hK, hD⟩, hS.F ht9⟩) hS.2.2 d_PD_isFile_15
    · obtain ⟨j, hj, rfl⟩ := nI_of h1
      have hj2 : j < 16 := Nat.not_le.mp fun q => h2 ((nI_leI (by omega) hj).mpr q)
      refine lv_iconst (v := nI 1) hx hb d_PD_isFile_10 (by decide) ?_
      refine lv_goto (tgt := 15) hx hb d_PD_isFile_11 (by decide) ?_
      exact W.zret (v := (nI 1)) hx hb hret rfl (fun t9 ht9 hW9 => ⟨⟨_, (), rfl, Or.inl ⟨j, hj2, rfl, rfl⟩, by rw [ht9]; exact hP, va_K.moved hW9.alike hK, hD⟩, hS.F ht9⟩) hS.2.2 d_PD_isFile_15
set_option maxHeartbeats 4000000 in
set_option maxRecDepth 100000 in
/-- pagesFor(x) -/
theorem c_PD_pagesFor (l : Launch) (dC : Nat → ClassId) (dI : Nat → Nat → Nat) (cI cB cE cL cZ : ClassId) (Wd : va_W) (x : Nat) (hx0 : x < 1000000) (sz : Nat) : CMi l (dC, dI) (pw_ty cI cB cE cL cZ) y_PD_pagesFor w_PD_pagesFor ({ frames := 0, cells := 0, slots := 0, locals := 0 }) [.int (nI x)] (Wd) (fun _ : Unit => Wd) sz (fun r _ => r = nI (pd_pf x)) := by
  refine Met.ofW (cc := b_PD_pagesFor) (maxL := 1) (ret := (some .int)) (by decide) rfl ?_
  intro p e s m args below meth c s₁ B hml hv
  obtain ⟨rfl, hsz, hP, hK, hD0⟩ := hv
  have hx := B.exec
  have hb := B.bytes
  have hret := B.returns
  have hts := atoms_spec (ws := w_PD_pagesFor) B.pre
  have hg : ∀ w ∈ wsG, w.before _ s = true := fun w h => hts w (List.mem_cons_of_mem _ h)
  have hown : s.vm.findClass "PageDrive" = some m.cls := findClass_of_methodNamed B.named
  have hlocks := B.notSynchronized
  subst hsz
  have hD := hD0.self (sz := s.heap.size)
  generalize hAe : va_A (Wd) s.heap.size = A at hD ⊢
  have hA : ∀ q : Nat, s.heap.size ≤ q → A q := fun q h => by rw [← hAe]; exact Or.inr h
  have hS : va_S A s.heap s.heap [] := va_S.rf
  have hl := lv_entry ([.int (nI x)]) (n := 1) (Nat.le_of_ble_eq_true rfl)
  rw [lg_entry_eq]
  generalize (lg_sl ([.int (nI x)]) ++ List.replicate (1 - (lg_sl ([.int (nI x)])).length) Slot.unset).toArray = ls at hl ⊢
  have hl : lv_has ls 1 [(0, .int (nI x))] := hl
  refine lv_iload_n hx hb d_PD_pagesFor_0 rfl (lv_at hl 0 rfl) ?_
  refine lv_bipush (v := nI 64) hx hb d_PD_pagesFor_1 (by decide) ?_
  refine pq_iadd hx hb d_PD_pagesFor_3 ?_
  refine lv_iconst (v := nI 1) hx hb d_PD_pagesFor_4 (by decide) ?_
  refine pq_isub hx hb (by omega) d_PD_pagesFor_5 ?_
  refine lv_bipush (v := nI 64) hx hb d_PD_pagesFor_6 (by decide) ?_
  refine pq_idiv hx hb (by omega) (by omega) (by omega) d_PD_pagesFor_8 ?_
  refine pq_top (y := nI (pd_pf x)) (by rw [show (x + 64 - 1) / 64 = pd_pf x by unfold pd_pf; omega]) ?_
  exact W.iret (v := (nI (pd_pf x))) hx hb hret (fun t9 ht9 hW9 => ⟨⟨_, (), rfl, rfl, by rw [ht9]; exact hP, va_K.moved hW9.alike hK, hD⟩, hS.F ht9⟩) hS.2.2 d_PD_pagesFor_9
set_option maxHeartbeats 4000000 in
set_option maxRecDepth 100000 in
/-- isShared(p) -/
theorem c_PO_isShared (l : Launch) (dC : Nat → ClassId) (dI : Nat → Nat → Nat) (cI cB cE cL cZ : ClassId) (n : Nat) (ad : Nat → Nat) (S : pdS) (pg : Nat) (hp : pg < n) (hn : n ≤ 1024) (hs : S 1 pg < 1000000) (sz : Nat) : CMi l (dC, dI) (pw_ty cI cB cE cL cZ) y_PO_isShared w_PO_isShared ({ frames := 0, cells := 0, slots := 0, locals := 0 }) [.ref (ad 1), .int (nI pg)] (pw n ad cI cB cE S) (fun _ : Unit => pw n ad cI cB cE S) sz (fun r _ => (1 < S 1 pg ∧ r = nI 1) ∨ (S 1 pg ≤ 1 ∧ r = nI 0)) := by
  refine Met.ofW (cc := b_PO_isShared) (maxL := 2) (ret := (some .boolean)) (by decide) rfl ?_
  intro p e s m args below meth c s₁ B hml hv
  obtain ⟨rfl, hsz, hP, hK, hD0⟩ := hv
  have hx := B.exec
  have hb := B.bytes
  have hret := B.returns
  have hts := atoms_spec (ws := w_PO_isShared) B.pre
  have hg : ∀ w ∈ wsG, w.before _ s = true := fun w h => hts w (List.mem_cons_of_mem _ h)
  have hown : s.vm.findClass "PageDrive$Pool" = some m.cls := findClass_of_methodNamed B.named
  have hlocks := B.notSynchronized
  subst hsz
  have hD := hD0.self (sz := s.heap.size)
  generalize hAe : va_A (pw n ad cI cB cE S) s.heap.size = A at hD ⊢
  have hA : ∀ q : Nat, s.heap.size ≤ q → A q := fun q h => by rw [← hAe]; exact Or.inr h
  have hS : va_S A s.heap s.heap [] := va_S.rf
  have hl := lv_entry ([.ref (ad 1), .int (nI pg)]) (n := 2) (Nat.le_of_ble_eq_true rfl)
  rw [lg_entry_eq]
  generalize (lg_sl ([.ref (ad 1), .int (nI pg)]) ++ List.replicate (2 - (lg_sl ([.ref (ad 1), .int (nI pg)])).length) Slot.unset).toArray = ls at hl ⊢
  have hl : lv_has ls 2 [(0, .ref (ad 1)), (1, .int (nI pg))] := hl
  refine lv_aload_n hx hb d_PO_isShared_0 rfl (lv_at hl 0 rfl) ?_
  refine va_get (C := "PageDrive$Pool") (T := F_PO) (N := 6) hx hb hg iw_PO hown hK hP (1) pw_g1 rfl 2 (by decide) (hg (Cond.fieldLink "PageDrive$Pool" 19 "PageDrive$Pool" "rowsWith" "[I") (wG_m2 (List.mem_of_getElem? (i := 0) rfl))) (fun _ h9 => h9) rfl d_PO_isShared_1 ?_
  refine lv_iload_n hx hb d_PO_isShared_4 rfl (lv_at hl 1 rfl) ?_
  refine pq_iald hx hb hK hP 5 0 pw_g5 rfl (by omega) (by omega) d_PO_isShared_5 ?_
  refine lv_iconst (v := nI 1) hx hb d_PO_isShared_6 (by decide) ?_
  refine pq_icmp_le (tgt := 14) hx hb (by omega) (by omega) d_PO_isShared_7 (by decide) (fun h1 => ?_) (fun h1 => ?_)
  · refine lv_iconst (v := nI 0) hx hb d_PO_isShared_14 (by decide) ?_
    exact W.zret (v := (nI 0)) hx hb hret rfl (fun t9 ht9 hW9 => ⟨⟨_, (), rfl, Or.inr ⟨by omega, rfl⟩, by rw [ht9]; exact hP, va_K.moved hW9.alike hK, hD⟩, hS.F ht9⟩) hS.2.2 d_PO_isShared_15
  · refine lv_iconst (v := nI 1) hx hb d_PO_isShared_10 (by decide) ?_
    refine lv_goto (tgt := 15) hx hb d_PO_isShared_11 (by decide) ?_
    exact W.zret (v := (nI 1)) hx hb hret rfl (fun t9 ht9 hW9 => ⟨⟨_, (), rfl, Or.inl ⟨by omega, rfl⟩, by rw [ht9]; exact hP, va_K.moved hW9.alike hK, hD⟩, hS.F ht9⟩) hS.2.2 d_PO_isShared_15
set_option maxHeartbeats 4000000 in
set_option maxRecDepth 100000 in
/-- take() -/
theorem c_PO_take (l : Launch) (dC : Nat → ClassId) (dI : Nat → Nat → Nat) (cI cB cE cL cZ : ClassId) (n : Nat) (ad : Nat → Nat) (S : pdS) (hu : 0 < S 7 0) (hun : S 7 0 ≤ n) (hn : n ≤ 1024) (hp : S 2 (S 7 0 - 1) < n) (sz : Nat) : CMi l (dC, dI) (pw_ty cI cB cE cL cZ) y_PO_take w_PO_take ({ frames := 0, cells := 0, slots := 0, locals := 0 }) [.ref (ad 1)] (pw n ad cI cB cE S) (pw n ad cI cB cE) sz (fun r S2 => r = nI (S 2 (S 7 0 - 1)) ∧ S2 = pd_take S) := by
  refine Met.ofW (cc := b_PO_take) (maxL := 2) (ret := (some .int)) (by decide) rfl ?_
  intro p e s m args below meth c s₁ B hml hv
  obtain ⟨rfl, hsz, hP, hK, hD0⟩ := hv
  have hx := B.exec
  have hb := B.bytes
  have hret := B.returns
  have hts := atoms_spec (ws := w_PO_take) B.pre
  have hg : ∀ w ∈ wsG, w.before _ s = true := fun w h => hts w (List.mem_cons_of_mem _ h)
  have hown : s.vm.findClass "PageDrive$Pool" = some m.cls := findClass_of_methodNamed B.named
  have hlocks := B.notSynchronized
  subst hsz
  have hD := hD0.self (sz := s.heap.size)
  generalize hAe : va_A (pw n ad cI cB cE S) s.heap.size = A at hD ⊢
  have hA : ∀ q : Nat, s.heap.size ≤ q → A q := fun q h => by rw [← hAe]; exact Or.inr h
  have hS : va_S A s.heap s.heap [] := va_S.rf
  have hl := lv_entry ([.ref (ad 1)]) (n := 2) (Nat.le_of_ble_eq_true rfl)
  rw [lg_entry_eq]
  generalize (lg_sl ([.ref (ad 1)]) ++ List.replicate (2 - (lg_sl ([.ref (ad 1)])).length) Slot.unset).toArray = ls at hl ⊢
  have hl : lv_has ls 2 [(0, .ref (ad 1))] := hl
  refine lv_aload_n hx hb d_PO_take_0 rfl (lv_at hl 0 rfl) ?_
  refine lv_dup hx hb d_PO_take_1 rfl ?_
  refine va_get (C := "PageDrive$Pool") (T := F_PO) (N := 6) hx hb hg iw_PO hown hK hP (1) pw_g1 rfl 4 (by decide) (hg (Cond.fieldLink "PageDrive$Pool" 26 "PageDrive$Pool" "unusedCount" "I") (wG_m2 (List.mem_of_getElem? (i := 2) rfl))) (fun _ h9 => h9) rfl d_PO_take_2 ?_
  refine lv_iconst (v := nI 1) hx hb d_PO_take_5 (by decide) ?_
  refine pq_isub hx hb (by omega) d_PO_take_6 ?_
  refine pr_uc hx hb hg hown hK hP hD hS (hg (Cond.fieldLink "PageDrive$Pool" 26 "PageDrive$Pool" "unusedCount" "I") (wG_m2 (List.mem_of_getElem? (i := 2) rfl))) d_PO_take_7 (fun H locs hP hD hS => ?_)
  generalize eS1 : pd_st S 7 0 ((S 7 0) - 1) = S1 at hP hD
  have h70 : S1 7 0 = S 7 0 - 1 := by rw [← eS1, pd_self]
  have h2 : S1 2 = S 2 := by rw [← eS1, pd_bk _ (by decide)]
  refine lv_aload_n hx hb d_PO_take_10 rfl (lv_at hl 0 rfl) ?_
  refine va_get (C := "PageDrive$Pool") (T := F_PO) (N := 6) hx hb hg iw_PO hown hK hP (1) pw_g1 rfl 3 (by decide) (hg (Cond.fieldLink "PageDrive$Pool" 23 "PageDrive$Pool" "unused" "[I") (wG_m2 (List.mem_of_getElem? (i := 1) rfl))) (fun _ h9 => h9) rfl d_PO_take_11 ?_
  refine lv_aload_n hx hb d_PO_take_14 rfl (lv_at hl 0 rfl) ?_
  refine va_get (C := "PageDrive$Pool") (T := F_PO) (N := 6) hx hb hg iw_PO hown hK hP (1) pw_g1 rfl 4 (by decide) (hg (Cond.fieldLink "PageDrive$Pool" 26 "PageDrive$Pool" "unusedCount" "I") (wG_m2 (List.mem_of_getElem? (i := 2) rfl))) (fun _ h9 => h9) rfl d_PO_take_15 ?_
  refine pq_iald hx hb hK hP 6 0 pw_g6 rfl (by omega) (by omega) d_PO_take_18 ?_
  refine pq_top (y := nI (S 2 (S 7 0 - 1))) (by rw [h70, h2]) ?_
  refine lv_istore_n (lv' := [(1, .int (nI (S 2 (S 7 0 - 1)))), (0, .ref (ad 1))]) hx hb d_PO_take_19 rfl hl (by decide) rfl (fun ls hl => ?_)
  refine lv_aload_n hx hb d_PO_take_20 rfl (lv_at hl 1 rfl) ?_
  refine va_get (C := "PageDrive$Pool") (T := F_PO) (N := 6) hx hb hg iw_PO hown hK hP (1) pw_g1 rfl 2 (by decide) (hg (Cond.fieldLink "PageDrive$Pool" 19 "PageDrive$Pool" "rowsWith" "[I") (wG_m2 (List.mem_of_getElem? (i := 0) rfl))) (fun _ h9 => h9) rfl d_PO_take_21 ?_
  refine lv_iload_n hx hb d_PO_take_24 rfl (lv_at hl 0 rfl) ?_
  refine lv_iconst (v := nI 1) hx hb d_PO_take_25 (by decide) ?_
  refine pr_rw hx hb hK hP hD hS (by omega) (by omega) rfl d_PO_take_26 (fun H locs hP hD hS => ?_)
  generalize eS2 : pd_st S1 1 (S 2 (S 7 0 - 1)) 1 = S2 at hP hD
  refine lv_iload_n hx hb d_PO_take_27 rfl (lv_at hl 0 rfl) ?_
  exact W.iret (v := (nI (S 2 (S 7 0 - 1)))) hx hb hret (fun t9 ht9 hW9 => ⟨⟨_, _, rfl, ⟨rfl, by rw [← eS2, ← eS1]; rfl⟩, by rw [ht9]; exact hP, va_K.moved hW9.alike hK, hD⟩, hS.F ht9⟩) hS.2.2 d_PO_take_28
set_option maxHeartbeats 4000000 in
set_option maxRecDepth 100000 in
/-- join(p) -/
theorem c_PO_join (l : Launch) (dC : Nat → ClassId) (dI : Nat → Nat → Nat) (cI cB cE cL cZ : ClassId) (n : Nat) (ad : Nat → Nat) (S : pdS) (pg : Nat) (hp : pg < n) (hn : n ≤ 1024) (sz : Nat) : CMv l (dC, dI) (pw_ty cI cB cE cL cZ) y_PO_join w_PO_join ({ frames := 0, cells := 0, slots := 0, locals := 0 }) [.ref (ad 1), .int (nI pg)] (pw n ad cI cB cE S) (pw n ad cI cB cE) sz (fun S2 => S2 = pd_join S pg) := by
  refine Met.ofW (cc := b_PO_join) (maxL := 2) (ret := none) (by decide) rfl ?_
  intro p e s m args below meth c s₁ B hml hv
  obtain ⟨rfl, hsz, hP, hK, hD0⟩ := hv
  have hx := B.exec
  have hb := B.bytes
  have hret := B.returns
  have hts := atoms_spec (ws := w_PO_join) B.pre
  have hg : ∀ w ∈ wsG, w.before _ s = true := fun w h => hts w (List.mem_cons_of_mem _ h)
  have hown : s.vm.findClass "PageDrive$Pool" = some m.cls := findClass_of_methodNamed B.named
  have hlocks := B.notSynchronized
  subst hsz
  have hD := hD0.self (sz := s.heap.size)
  generalize hAe : va_A (pw n ad cI cB cE S) s.heap.size = A at hD ⊢
  have hA : ∀ q : Nat, s.heap.size ≤ q → A q := fun q h => by rw [← hAe]; exact Or.inr h
  have hS : va_S A s.heap s.heap [] := va_S.rf
  have hl := lv_entry ([.ref (ad 1), .int (nI pg)]) (n := 2) (Nat.le_of_ble_eq_true rfl)
  rw [lg_entry_eq]
  generalize (lg_sl ([.ref (ad 1), .int (nI pg)]) ++ List.replicate (2 - (lg_sl ([.ref (ad 1), .int (nI pg)])).length) Slot.unset).toArray = ls at hl ⊢
  have hl : lv_has ls 2 [(0, .ref (ad 1)), (1, .int (nI pg))] := hl
  refine lv_aload_n hx hb d_PO_join_0 rfl (lv_at hl 0 rfl) ?_
  refine va_get (C := "PageDrive$Pool") (T := F_PO) (N := 6) hx hb hg iw_PO hown hK hP (1) pw_g1 rfl 2 (by decide) (hg (Cond.fieldLink "PageDrive$Pool" 19 "PageDrive$Pool" "rowsWith" "[I") (wG_m2 (List.mem_of_getElem? (i := 0) rfl))) (fun _ h9 => h9) rfl d_PO_join_1 ?_
  refine lv_iload_n hx hb d_PO_join_4 rfl (lv_at hl 1 rfl) ?_
  refine lv_dup2_11 hx hb d_PO_join_5 rfl rfl ?_
  refine pq_iald hx hb hK hP 5 0 pw_g5 rfl (by omega) (by omega) d_PO_join_6 ?_
  refine lv_iconst (v := nI 1) hx hb d_PO_join_7 (by decide) ?_
  refine pq_iadd hx hb d_PO_join_8 ?_
  refine pr_rw hx hb hK hP hD hS (by omega) (by omega) rfl d_PO_join_9 (fun H locs hP hD hS => ?_)
  generalize eS1 : pd_st S 1 pg ((S 1 pg) + 1) = S1 at hP hD
  exact W.vret hx hb hret (fun t9 ht9 hW9 => ⟨⟨_, rfl, by rw [← eS1]; rfl, by rw [ht9]; exact hP, va_K.moved hW9.alike hK, hD⟩, hS.F ht9⟩) hS.2.2 d_PO_join_10
set_option maxHeartbeats 4000000 in
set_option maxRecDepth 100000 in
/-- leave(p) -/
theorem c_PO_leave (l : Launch) (dC : Nat → ClassId) (dI : Nat → Nat → Nat) (cI cB cE cL cZ : ClassId) (n : Nat) (ad : Nat → Nat) (S : pdS) (pg : Nat) (hp : pg < n) (hn : n ≤ 1024) (h1 : 0 < S 1 pg) (h1u : S 1 pg < 1000000) (hu : S 7 0 < n) (sz : Nat) : CMv l (dC, dI) (pw_ty cI cB cE cL cZ) y_PO_leave w_PO_leave ({ frames := 0, cells := 0, slots := 0, locals := 0 }) [.ref (ad 1), .int (nI pg)] (pw n ad cI cB cE S) (pw n ad cI cB cE) sz (fun S2 => S2 = pd_leave S pg) := by
  refine Met.ofW (cc := b_PO_leave) (maxL := 2) (ret := none) (by decide) rfl ?_
  intro p e s m args below meth c s₁ B hml hv
  obtain ⟨rfl, hsz, hP, hK, hD0⟩ := hv
  have hx := B.exec
  have hb := B.bytes
  have hret := B.returns
  have hts := atoms_spec (ws := w_PO_leave) B.pre
  have hg : ∀ w ∈ wsG, w.before _ s = true := fun w h => hts w (List.mem_cons_of_mem _ h)
  have hown : s.vm.findClass "PageDrive$Pool" = some m.cls := findClass_of_methodNamed B.named
  have hlocks := B.notSynchronized
  subst hsz
  have hD := hD0.self (sz := s.heap.size)
  generalize hAe : va_A (pw n ad cI cB cE S) s.heap.size = A at hD ⊢
  have hA : ∀ q : Nat, s.heap.size ≤ q → A q := fun q h => by rw [← hAe]; exact Or.inr h
  have hS : va_S A s.heap s.heap [] := va_S.rf
  have hl := lv_entry ([.ref (ad 1), .int (nI pg)]) (n := 2) (Nat.le_of_ble_eq_true rfl)
  rw [lg_entry_eq]
  generalize (lg_sl ([.ref (ad 1), .int (nI pg)]) ++ List.replicate (2 - (lg_sl ([.ref (ad 1), .int (nI pg)])).length) Slot.unset).toArray = ls at hl ⊢
  have hl : lv_has ls 2 [(0, .ref (ad 1)), (1, .int (nI pg))] := hl
  refine lv_aload_n hx hb d_PO_leave_0 rfl (lv_at hl 0 rfl) ?_
  refine va_get (C := "PageDrive$Pool") (T := F_PO) (N := 6) hx hb hg iw_PO hown hK hP (1) pw_g1 rfl 2 (by decide) (hg (Cond.fieldLink "PageDrive$Pool" 19 "PageDrive$Pool" "rowsWith" "[I") (wG_m2 (List.mem_of_getElem? (i := 0) rfl))) (fun _ h9 => h9) rfl d_PO_leave_1 ?_
  refine lv_iload_n hx hb d_PO_leave_4 rfl (lv_at hl 1 rfl) ?_
  refine lv_dup2_11 hx hb d_PO_leave_5 rfl rfl ?_
  refine pq_iald hx hb hK hP 5 0 pw_g5 rfl (by omega) (by omega) d_PO_leave_6 ?_
  refine lv_iconst (v := nI 1) hx hb d_PO_leave_7 (by decide) ?_
  refine pq_isub hx hb (by omega) d_PO_leave_8 ?_
  refine pr_rw hx hb hK hP hD hS (by omega) (by omega) rfl d_PO_leave_9 (fun H locs hP hD hS => ?_)
  generalize eS1 : pd_st S 1 pg ((S 1 pg) - 1) = S1 at hP hD
  have h11 : S1 1 pg = S 1 pg - 1 := by rw [← eS1, pd_self]
  have h17 : S1 7 = S 7 := by rw [← eS1, pd_bk _ (by decide)]
  have h170 : S1 7 0 = S 7 0 := by rw [h17]
  refine lv_aload_n hx hb d_PO_leave_10 rfl (lv_at hl 0 rfl) ?_
  refine va_get (C := "PageDrive$Pool") (T := F_PO) (N := 6) hx hb hg iw_PO hown hK hP (1) pw_g1 rfl 2 (by decide) (hg (Cond.fieldLink "PageDrive$Pool" 19 "PageDrive$Pool" "rowsWith" "[I") (wG_m2 (List.mem_of_getElem? (i := 0) rfl))) (fun _ h9 => h9) rfl d_PO_leave_11 ?_
  refine lv_iload_n hx hb d_PO_leave_14 rfl (lv_at hl 1 rfl) ?_
  refine pq_iald hx hb hK hP 5 0 pw_g5 rfl (by omega) (by omega) d_PO_leave_15 ?_
  refine pq_if_ne (tgt := 39) hx hb (by omega) d_PO_leave_16 (by decide) (fun h2 => ?_) (fun h2 => ?_)
  · exact W.vret hx hb hret (fun t9 ht9 hW9 => ⟨⟨_, rfl, by rw [← eS1]; unfold pd_leave; rw [if_neg (by omega)], by rw [ht9]; exact hP, va_K.moved hW9.alike hK, hD⟩, hS.F ht9⟩) hS.2.2 d_PO_leave_39
  · refine lv_aload_n hx hb d_PO_leave_19 rfl (lv_at hl 0 rfl) ?_
    refine va_get (C := "PageDrive$Pool") (T := F_PO) (N := 6) hx hb hg iw_PO hown hK hP (1) pw_g1 rfl 3 (by decide) (hg (Cond.fieldLink "PageDrive$Pool" 23 "PageDrive$Pool" "unused" "[I") (wG_m2 (List.mem_of_getElem? (i := 1) rfl))) (fun _ h9 => h9) rfl d_PO_leave_20 ?_
    refine lv_aload_n hx hb d_PO_leave_23 rfl (lv_at hl 0 rfl) ?_
    refine va_get (C := "PageDrive$Pool") (T := F_PO) (N := 6) hx hb hg iw_PO hown hK hP (1) pw_g1 rfl 4 (by decide) (hg (Cond.fieldLink "PageDrive$Pool" 26 "PageDrive$Pool" "unusedCount" "I") (wG_m2 (List.mem_of_getElem? (i := 2) rfl))) (fun _ h9 => h9) rfl d_PO_leave_24 ?_
    refine lv_iload_n hx hb d_PO_leave_27 rfl (lv_at hl 1 rfl) ?_
    refine pr_un hx hb hK hP hD hS (by omega) (by omega) rfl d_PO_leave_28 (fun H locs hP hD hS => ?_)
    generalize eS2 : pd_st S1 2 (S1 7 0) pg = S2 at hP hD
    have h270 : S2 7 0 = S 7 0 := by rw [← eS2, pd_bk _ (by decide), h17]
    refine lv_aload_n hx hb d_PO_leave_29 rfl (lv_at hl 0 rfl) ?_
    refine lv_dup hx hb d_PO_leave_30 rfl ?_
    refine va_get (C := "PageDrive$Pool") (T := F_PO) (N := 6) hx hb hg iw_PO hown hK hP (1) pw_g1 rfl 4 (by decide) (hg (Cond.fieldLink "PageDrive$Pool" 26 "PageDrive$Pool" "unusedCount" "I") (wG_m2 (List.mem_of_getElem? (i := 2) rfl))) (fun _ h9 => h9) rfl d_PO_leave_31 ?_
    refine lv_iconst (v := nI 1) hx hb d_PO_leave_34 (by decide) ?_
    refine pq_iadd hx hb d_PO_leave_35 ?_
    refine pr_uc hx hb hg hown hK hP hD hS (hg (Cond.fieldLink "PageDrive$Pool" 26 "PageDrive$Pool" "unusedCount" "I") (wG_m2 (List.mem_of_getElem? (i := 2) rfl))) d_PO_leave_36 (fun H locs hP hD hS => ?_)
    generalize eS3 : pd_st S2 7 0 ((S2 7 0) + 1) = S3 at hP hD
    exact W.vret hx hb hret (fun t9 ht9 hW9 => ⟨⟨_, rfl, by rw [← eS3, ← eS2, h170, pd_bk _ (by decide), h17, ← eS1]; unfold pd_leave; rw [if_pos (by omega), show S 1 pg - 1 = 0 by omega], by rw [ht9]; exact hP, va_K.moved hW9.alike hK, hD⟩, hS.F ht9⟩) hS.2.2 d_PO_leave_39
set_option maxHeartbeats 4000000 in
set_option maxRecDepth 100000 in
/-- placeOf(i) -/
theorem c_CO_placeOf (l : Launch) (dC : Nat → ClassId) (dI : Nat → Nat → Nat) (cI cB cE cL cZ : ClassId) (n : Nat) (ad : Nat → Nat) (S : pdS) (cc i : Nat) (hc : cc < 32) (hi : i < 25600) (hr0 : S (8 + cc) (i / 64) < 1024) (sz : Nat) : CMi l (dC, dI) (pw_ty cI cB cE cL cZ) y_CO_placeOf w_CO_placeOf ({ frames := 0, cells := 0, slots := 0, locals := 0 }) [.ref (ad (23 + cc)), .int (nI i)] (pw n ad cI cB cE S) (fun _ : Unit => pw n ad cI cB cE S) sz (fun r _ => r = nI (64 * S (8 + cc) (i / 64) + i % 64)) := by
  refine Met.ofW (cc := b_CO_placeOf) (maxL := 2) (ret := (some .int)) (by decide) rfl ?_
  intro p e s m args below meth c s₁ B hml hv
  obtain ⟨rfl, hsz, hP, hK, hD0⟩ := hv
  have hx := B.exec
  have hb := B.bytes
  have hret := B.returns
  have hts := atoms_spec (ws := w_CO_placeOf) B.pre
  have hg : ∀ w ∈ wsG, w.before _ s = true := fun w h => hts w (List.mem_cons_of_mem _ h)
  have hown : s.vm.findClass "PageDrive$Content" = some m.cls := findClass_of_methodNamed B.named
  have hlocks := B.notSynchronized
  subst hsz
  have hD := hD0.self (sz := s.heap.size)
  generalize hAe : va_A (pw n ad cI cB cE S) s.heap.size = A at hD ⊢
  have hA : ∀ q : Nat, s.heap.size ≤ q → A q := fun q h => by rw [← hAe]; exact Or.inr h
  have hS : va_S A s.heap s.heap [] := va_S.rf
  have hl := lv_entry ([.ref (ad (23 + cc)), .int (nI i)]) (n := 2) (Nat.le_of_ble_eq_true rfl)
  rw [lg_entry_eq]
  generalize (lg_sl ([.ref (ad (23 + cc)), .int (nI i)]) ++ List.replicate (2 - (lg_sl ([.ref (ad (23 + cc)), .int (nI i)])).length) Slot.unset).toArray = ls at hl ⊢
  have hl : lv_has ls 2 [(0, .ref (ad (23 + cc))), (1, .int (nI i))] := hl
  refine lv_aload_n hx hb d_CO_placeOf_0 rfl (lv_at hl 0 rfl) ?_
  refine va_get (C := "PageDrive$Content") (T := F_CO) (N := 3) hx hb hg iw_CO hown hK hP (23 + cc) (pw_gC (i := cc) (by omega)) rfl 0 (by decide) (hg (Cond.fieldLink "PageDrive$Content" 9 "PageDrive$Content" "row" "[I") (wG_m2 (List.mem_of_getElem? (i := 31) rfl))) (fun _ h9 => h9) rfl d_CO_placeOf_1 ?_
  refine lv_iload_n hx hb d_CO_placeOf_4 rfl (lv_at hl 1 rfl) ?_
  refine lv_bipush (v := nI 64) hx hb d_CO_placeOf_5 (by decide) ?_
  refine pq_idiv hx hb (by omega) (by omega) (by omega) d_CO_placeOf_7 ?_
  refine pq_iald hx hb hK hP (55 + cc) 0 (pw_gR (i := cc) (by omega)) rfl (by omega) (by omega) d_CO_placeOf_8 ?_
  refine lv_bipush (v := nI 64) hx hb d_CO_placeOf_9 (by decide) ?_
  refine pq_imul hx hb d_CO_placeOf_11 ?_
  refine lv_iload_n hx hb d_CO_placeOf_12 rfl (lv_at hl 1 rfl) ?_
  refine lv_bipush (v := nI 64) hx hb d_CO_placeOf_13 (by decide) ?_
  refine pq_irem hx hb (by omega) (by omega) (by omega) d_CO_placeOf_15 ?_
  refine pq_iadd hx hb d_CO_placeOf_16 ?_
  refine pq_top (y := nI (64 * S (8 + cc) (i / 64) + i % 64)) (by rw [Nat.mul_comm]) ?_
  exact W.iret (v := (nI (64 * S (8 + cc) (i / 64) + i % 64))) hx hb hret (fun t9 ht9 hW9 => ⟨⟨_, (), rfl, rfl, by rw [ht9]; exact hP, va_K.moved hW9.alike hK, hD⟩, hS.F ht9⟩) hS.2.2 d_CO_placeOf_17
end
section
/-! THE CLASS, 2: exchangeForCopy, shorten -/
set_option maxHeartbeats 4000000 in
set_option maxRecDepth 100000 in
/-- exchangeForCopy(pg) -/
theorem c_PO_exchangeForCopy (l : Launch) (dC : Nat → ClassId) (dI : Nat → Nat → Nat) (cI cB cE cL cZ : ClassId) (n : Nat) (ad : Nat → Nat) (S : pdS) (f : Nat → Nat) (pg : Nat) (hpg : pg < n) (hn : n ≤ 1024) (ho : pd_ok n S f) (hu : 0 < S 7 0) (h2 : 1 < f pg) (h2b : f pg < 1000000) (sz : Nat) : CMi l (dC, dI) (pw_ty cI cB cE cL cZ) y_PO_exchangeForCopy w_PO_exchangeForCopy ({ frames := 1, cells := 0, slots := 0, locals := 60 }) [.ref (ad 1), .int (nI pg)] (pw n ad cI cB cE S) (pw n ad cI cB cE) sz (fun r S2 => r = nI (S 2 (S 7 0 - 1)) ∧ S2 = pd_st (pd_leave (va_up (pd_take S) 0 (va_cpy (S 0) (S 0) (64 * pg) (64 * S 2 (S 7 0 - 1)) 64)) pg) 7 1 (S 7 1 + 1)) := by
  refine Met.ofW (cc := b_PO_exchangeForCopy) (maxL := 3) (ret := (some .int)) (by decide) rfl ?_
  intro p e s m args below meth c s₁ B hml hv
  obtain ⟨rfl, hsz, hP, hK, hD0⟩ := hv
  have hx := B.exec
  have hb := B.bytes
  have hret := B.returns
  have hts := atoms_spec (ws := w_PO_exchangeForCopy) B.pre
  have hg : ∀ w ∈ wsG, w.before _ s = true := fun w h => hts w (List.mem_cons_of_mem _ h)
  have hown : s.vm.findClass "PageDrive$Pool" = some m.cls := findClass_of_methodNamed B.named
  have hlocks := B.notSynchronized
  subst hsz
  have hD := hD0.self (sz := s.heap.size)
  generalize hAe : va_A (pw n ad cI cB cE S) s.heap.size = A at hD ⊢
  have hA : ∀ q : Nat, s.heap.size ≤ q → A q := fun q h => by rw [← hAe]; exact Or.inr h
  have hS : va_S A s.heap s.heap [] := va_S.rf
  have hl := lv_entry ([.ref (ad 1), .int (nI pg)]) (n := 3) (Nat.le_of_ble_eq_true rfl)
  rw [lg_entry_eq]
  generalize (lg_sl ([.ref (ad 1), .int (nI pg)]) ++ List.replicate (3 - (lg_sl ([.ref (ad 1), .int (nI pg)])).length) Slot.unset).toArray = ls at hl ⊢
  have hl : lv_has ls 3 [(0, .ref (ad 1)), (1, .int (nI pg))] := hl
  obtain ⟨hnw, hf0, hne, ht1, ht7, hok⟩ := pd_xch_ok (h := va_cpy (S 0) (S 0) (64 * pg) (64 * S 2 (S 7 0 - 1)) 64) ho hu hpg h2
  have hun : S 7 0 ≤ n := by have := ho.2.2.2; omega
  refine lv_aload_n hx hb d_PO_exchangeForCopy_0 rfl (lv_at hl 0 rfl) ?_
  refine pw_calli (va_runV (As := []) (rest := []) ⟨hx, hb, hml, hown, hg⟩ (c_PO_take l dC dI cI cB cE cL cZ n ad S hu hun hn hnw s.heap.size) (cwV 0 hg (gi_V (fun _ h => h) (wG_m8 (List.mem_of_getElem? (i := 13) rfl)) (wG_m8 (List.mem_of_getElem? (i := 14) rfl)) (wG_m8 (List.mem_of_getElem? (i := 15) rfl)) (wG_m1 (List.mem_of_getElem? (i := 2) rfl)) (wG_m8 (List.mem_of_getElem? (i := 16) rfl))) rfl rfl rfl (by decide +kernel) ⟨Nat.le_of_ble_eq_true rfl, Nat.le_of_ble_eq_true rfl⟩) (pw_pv hK hP hD (va_recv hK hP (ci := 1) (q0 := 1) rfl pw_g1) []) rfl rfl hl.1 rfl (lv_room (Nat.le_of_ble_eq_true rfl)) d_PO_exchangeForCopy_1 ⟨Nat.le_of_ble_eq_true rfl, Nat.le_of_ble_eq_true rfl⟩) hD hS hA (fun r1 S1 H locs hr hP hD hS => ?_)
  obtain ⟨rfl, eS1⟩ := hr
  generalize hnwe : S 2 (S 7 0 - 1) = nw at *
  refine lv_istore_n (lv' := [(2, .int (nI nw)), (0, .ref (ad 1)), (1, .int (nI pg))]) hx hb d_PO_exchangeForCopy_4 rfl hl (by decide) rfl (fun ls hl => ?_)
  refine lv_aload_n hx hb d_PO_exchangeForCopy_5 rfl (lv_at hl 1 rfl) ?_
  refine va_get (C := "PageDrive$Pool") (T := F_PO) (N := 6) hx hb hg iw_PO hown hK hP (1) pw_g1 rfl 1 (by decide) (hg (Cond.fieldLink "PageDrive$Pool" 15 "PageDrive$Pool" "bytes" "[B") (wG_m1 (List.mem_of_getElem? (i := 38) rfl))) (fun _ h9 => h9) rfl d_PO_exchangeForCopy_6 ?_
  refine lv_iload_n hx hb d_PO_exchangeForCopy_9 rfl (lv_at hl 2 rfl) ?_
  refine lv_bipush (v := nI 64) hx hb d_PO_exchangeForCopy_10 (by decide) ?_
  refine pq_imul hx hb d_PO_exchangeForCopy_12 ?_
  refine lv_aload_n hx hb d_PO_exchangeForCopy_13 rfl (lv_at hl 1 rfl) ?_
  refine va_get (C := "PageDrive$Pool") (T := F_PO) (N := 6) hx hb hg iw_PO hown hK hP (1) pw_g1 rfl 1 (by decide) (hg (Cond.fieldLink "PageDrive$Pool" 15 "PageDrive$Pool" "bytes" "[B") (wG_m1 (List.mem_of_getElem? (i := 38) rfl))) (fun _ h9 => h9) rfl d_PO_exchangeForCopy_14 ?_
  refine lv_iload_n hx hb d_PO_exchangeForCopy_17 rfl (lv_at hl 0 rfl) ?_
  refine lv_bipush (v := nI 64) hx hb d_PO_exchangeForCopy_18 (by decide) ?_
  refine pq_imul hx hb d_PO_exchangeForCopy_20 ?_
  refine lv_bipush (v := nI 64) hx hb d_PO_exchangeForCopy_21 (by decide) ?_
  refine pr_cpB hx hb (hml.trans hl.1.symm) hown (hg (Cond.methodLink "PageDrive$Pool" 36 ⟨"java/lang/System", "arraycopy", "(Ljava/lang/Object;ILjava/lang/Object;II)V"⟩) (wG_m8 (List.mem_of_getElem? (i := 17) rfl))) (hg (Cond.native ⟨"java/lang/System", "arraycopy", "(Ljava/lang/Object;ILjava/lang/Object;II)V"⟩) (wG_m4 (List.mem_of_getElem? (i := 22) rfl))) (hg (Cond.static ⟨"java/lang/System", "arraycopy", "(Ljava/lang/Object;ILjava/lang/Object;II)V"⟩) (wG_m4 (List.mem_of_getElem? (i := 21) rfl))) (hg (Cond.initialized "java/lang/System") (wG_m1 (List.mem_of_getElem? (i := 14) rfl))) hK hP hD hS hn (by omega) (by omega) rfl (Nat.le_of_ble_eq_true rfl) (Nat.le_of_ble_eq_true rfl) d_PO_exchangeForCopy_23 (fun H locs hP hD hS => ?_)
  generalize eS2 : va_up S1 0 (va_cpy (S1 0) (S1 0) (pg * 64) (nw * 64) 64) = S2 at hP hD
  have e10 : S1 0 = S 0 := by rw [eS1]; exact (pd_fr_take S).1 0 (by decide) (by decide) (by decide)
  have eS2b : S2 = va_up (pd_take S) 0 (va_cpy (S 0) (S 0) (64 * pg) (64 * nw) 64) := by rw [← eS2, e10, eS1, Nat.mul_comm pg, Nat.mul_comm nw]
  have h21 : S2 1 pg = f pg := by rw [eS2b, va_up_ne _ _ (by decide)]; exact ht1
  have h27 : S2 7 0 < n := by rw [eS2b, va_up_ne _ _ (by decide)]; exact ht7
  refine lv_aload_n hx hb d_PO_exchangeForCopy_26 rfl (lv_at hl 1 rfl) ?_
  refine lv_iload_n hx hb d_PO_exchangeForCopy_27 rfl (lv_at hl 2 rfl) ?_
  refine pw_callv (va_runV (As := [.int (nI pg)]) (rest := []) ⟨hx, hb, hml, hown, hg⟩ (c_PO_leave l dC dI cI cB cE cL cZ n ad S2 pg hpg hn (by omega) (by omega) h27 H.size) (cwV 1 hg (gi_V (fun _ h => h) (wG_m8 (List.mem_of_getElem? (i := 18) rfl)) (wG_m4 (List.mem_of_getElem? (i := 17) rfl)) (wG_m4 (List.mem_of_getElem? (i := 18) rfl)) (wG_m1 (List.mem_of_getElem? (i := 2) rfl)) (wG_m4 (List.mem_of_getElem? (i := 19) rfl))) rfl rfl rfl (by decide +kernel) ⟨Nat.le_of_ble_eq_true rfl, Nat.le_of_ble_eq_true rfl⟩) (pw_pv hK hP hD (va_recv hK hP (ci := 1) (q0 := 1) rfl pw_g1) [.int (nI pg)]) rfl rfl hl.1 rfl (lv_room (Nat.le_of_ble_eq_true rfl)) d_PO_exchangeForCopy_28 ⟨Nat.le_of_ble_eq_true rfl, Nat.le_of_ble_eq_true rfl⟩) hD hS hA (fun S3 H locs hr hP hD hS => ?_)
  have h371 : S3 7 1 = S 7 1 := by rw [hr, (pd_fr_leave S2 pg).2 1 (by decide), eS2b, va_up_ne _ _ (by decide), (pd_fr_take S).2 1 (by decide)]
  refine lv_aload_n hx hb d_PO_exchangeForCopy_31 rfl (lv_at hl 1 rfl) ?_
  refine lv_dup hx hb d_PO_exchangeForCopy_32 rfl ?_
  refine va_get (C := "PageDrive$Pool") (T := F_PO) (N := 6) hx hb hg iw_PO hown hK hP (1) pw_g1 rfl 5 (by decide) (hg (Cond.fieldLink "PageDrive$Pool" 29 "PageDrive$Pool" "copied" "I") (wG_m2 (List.mem_of_getElem? (i := 4) rfl))) (fun _ h9 => h9) rfl d_PO_exchangeForCopy_33 ?_
  refine lv_iconst (v := nI 1) hx hb d_PO_exchangeForCopy_36 (by decide) ?_
  refine pq_iadd hx hb d_PO_exchangeForCopy_37 ?_
  refine pr_cop hx hb hg hown hK hP hD hS (hg (Cond.fieldLink "PageDrive$Pool" 29 "PageDrive$Pool" "copied" "I") (wG_m2 (List.mem_of_getElem? (i := 4) rfl))) d_PO_exchangeForCopy_38 (fun H locs hP hD hS => ?_)
  generalize eS4 : pd_st S3 7 1 ((S3 7 1) + 1) = S4 at hP hD
  refine lv_iload_n hx hb d_PO_exchangeForCopy_41 rfl (lv_at hl 0 rfl) ?_
  exact W.iret (v := (nI nw)) hx hb hret (fun t9 ht9 hW9 => ⟨⟨_, _, rfl, ⟨rfl, by rw [← eS4, h371, hr, eS2b]⟩, by rw [ht9]; exact hP, va_K.moved hW9.alike hK, hD⟩, hS.F ht9⟩) hS.2.2 d_PO_exchangeForCopy_42
set_option maxHeartbeats 4000000 in
set_option maxRecDepth 100000 in
/-- shorten(content, x): the pages behind leave -/
theorem c_PD_shorten (l : Launch) (dC : Nat → ClassId) (dI : Nat → Nat → Nat) (cI cB cE cL cZ : ClassId) (n : Nat) (ad : Nat → Nat) (S : pdS) (cc x : Nat) (g : Nat → Nat) (hn : n ≤ 1024) (hc : cc < 32) (hxs : x ≤ S 4 cc) (hs4 : S 4 cc ≤ 25600) (hrow : ∀ k, k < pd_pf (S 4 cc) → S (8 + cc) k < n) (hgb : ∀ q, g q < 100000) (hok : pd_ok n S (fun q => g q + pd_rc (fun j => S (8 + cc) (pd_pf x + j)) q (pd_pf (S 4 cc) - pd_pf x))) (sz : Nat) : CMv l (dC, dI) (pw_ty cI cB cE cL cZ) y_PD_shorten w_PD_shorten ({ frames := 1, cells := 0, slots := 0, locals := 21 }) [.ref (ad 0), .ref (ad (23 + cc)), .int (nI x)] (pw n ad cI cB cE S) (pw n ad cI cB cE) sz (fun S2 => ∃ T, pd_fr S T ∧ pd_ok n T g ∧ S2 = pd_st T 4 cc x) := by
  refine Met.ofW (cc := b_PD_shorten) (maxL := 4) (ret := none) (by decide) rfl ?_
  intro p e s m args below meth c s₁ B hml hv
  obtain ⟨rfl, hsz, hP, hK, hD0⟩ := hv
  have hx := B.exec
  have hb := B.bytes
  have hret := B.returns
  have hts := atoms_spec (ws := w_PD_shorten) B.pre
  have hg : ∀ w ∈ wsG, w.before _ s = true := fun w h => hts w (List.mem_cons_of_mem _ h)
  have hown : s.vm.findClass "PageDrive" = some m.cls := findClass_of_methodNamed B.named
  have hlocks := B.notSynchronized
  subst hsz
  have hD := hD0.self (sz := s.heap.size)
  generalize hAe : va_A (pw n ad cI cB cE S) s.heap.size = A at hD ⊢
  have hA : ∀ q : Nat, s.heap.size ≤ q → A q := fun q h => by rw [← hAe]; exact Or.inr h
  have hS : va_S A s.heap s.heap [] := va_S.rf
  have hl := lv_entry ([.ref (ad 0), .ref (ad (23 + cc)), .int (nI x)]) (n := 4) (Nat.le_of_ble_eq_true rfl)
  rw [lg_entry_eq]
  generalize (lg_sl ([.ref (ad 0), .ref (ad (23 + cc)), .int (nI x)]) ++ List.replicate (4 - (lg_sl ([.ref (ad 0), .ref (ad (23 + cc)), .int (nI x)])).length) Slot.unset).toArray = ls at hl ⊢
  have hl : lv_has ls 4 [(0, .ref (ad 0)), (1, .ref (ad (23 + cc))), (2, .int (nI x))] := hl
  have hm := pd_pf_mono hxs
  have h400 : pd_pf (S 4 cc) ≤ 400 := by unfold pd_pf; omega
  refine lv_iload_n hx hb d_PD_shorten_0 rfl (lv_at hl 2 rfl) ?_
  refine pw_callip (va_runS (As := [.int (nI x)]) (rest := []) ⟨hx, hb, hml, hown, hg⟩ (c_PD_pagesFor l dC dI cI cB cE cL cZ (pw n ad cI cB cE S) x (by omega) s.heap.size) (cwS 1 hg (gi_S (fun _ h => h) (wG_m4 (List.mem_of_getElem? (i := 6) rfl)) (wG_m4 (List.mem_of_getElem? (i := 7) rfl)) (wG_m1 (List.mem_of_getElem? (i := 1) rfl)) (wG_m4 (List.mem_of_getElem? (i := 8) rfl))) rfl rfl rfl (by decide +kernel) ⟨Nat.le_of_ble_eq_true rfl, Nat.le_of_ble_eq_true rfl⟩) (pw_ps hK hP hD [.int (nI x)]) rfl rfl hl.1 rfl (lv_room (Nat.le_of_ble_eq_true rfl)) d_PD_shorten_1 ⟨Nat.le_of_ble_eq_true rfl, Nat.le_of_ble_eq_true rfl⟩) hD hS hA (fun r1 H locs hr hP hD hS => ?_)
  subst hr
  refine lv_istore_n (lv' := [(3, .int (nI (pd_pf x))), (0, .ref (ad 0)), (1, .ref (ad (23 + cc))), (2, .int (nI x))]) hx hb d_PD_shorten_4 rfl hl (by decide) rfl (fun ls hl => ?_)
  refine pw_loop (fun mm H locs ls => ∃ (T : pdS) (k : Nat), mm = pd_pf (S 4 cc) - k ∧ pd_pf x ≤ k ∧ k ≤ pd_pf (S 4 cc) ∧ pd_fr S T ∧ pd_ok n T (fun q => g q + pd_rc (fun j => S (8 + cc) (k + j)) q (pd_pf (S 4 cc) - k)) ∧ va_P (dC, dI) pwCl (pw n ad cI cB cE T) H ∧ va_D A (pw n ad cI cB cE T) ∧ va_S A s.heap H locs ∧ lv_has ls 4 [(3, .int (nI k)), (0, .ref (ad 0)), (1, .ref (ad (23 + cc))), (2, .int (nI x))]) ?_ _ _ _ _ ⟨S, pd_pf x, rfl, Nat.le_refl _, hm, pd_fr_rf S, hok, hP, hD, hS, hl⟩
  rintro mm H locs ls ⟨T, k, hmm, hk1, hk2, hfr, hok, hP, hD, hS, hl⟩ ih
  have hT4 : T 4 = S 4 := hfr.1 4 (by decide) (by decide) (by decide)
  have hTr : T (8 + cc) = S (8 + cc) := hfr.1 (8 + cc) (by omega) (by omega) (by omega)
  have hT4c : T 4 cc = S 4 cc := by rw [hT4]
  refine lv_iload_n hx hb d_PD_shorten_5 rfl (lv_at hl 0 rfl) ?_
  refine lv_aload_n hx hb d_PD_shorten_6 rfl (lv_at hl 2 rfl) ?_
  refine va_get (C := "PageDrive$Content") (T := F_CO) (N := 3) hx hb hg iw_CO hown hK hP (23 + cc) (pw_gC (i := cc) (by omega)) rfl 1 (by decide) (hg (Cond.fieldLink "PageDrive" 67 "PageDrive$Content" "size" "I") (wG_m2 (List.mem_of_getElem? (i := 34) rfl))) (fun _ h9 => h9) rfl d_PD_shorten_7 ?_
  refine pw_callip (va_runS (As := [.int (nI (T 4 cc))]) (rest := [.int (nI k)]) ⟨hx, hb, hml, hown, hg⟩ (c_PD_pagesFor l dC dI cI cB cE cL cZ (pw n ad cI cB cE T) (T 4 cc) (by omega) H.size) (cwS 1 hg (gi_S (fun _ h => h) (wG_m4 (List.mem_of_getElem? (i := 6) rfl)) (wG_m4 (List.mem_of_getElem? (i := 7) rfl)) (wG_m1 (List.mem_of_getElem? (i := 1) rfl)) (wG_m4 (List.mem_of_getElem? (i := 8) rfl))) rfl rfl rfl (by decide +kernel) ⟨Nat.le_of_ble_eq_true rfl, Nat.le_of_ble_eq_true rfl⟩) (pw_ps hK hP hD [.int (nI (T 4 cc))]) rfl rfl hl.1 rfl (lv_room (Nat.le_of_ble_eq_true rfl)) d_PD_shorten_10 ⟨Nat.le_of_ble_eq_true rfl, Nat.le_of_ble_eq_true rfl⟩) hD hS hA (fun r2 H locs hr hP hD hS => ?_)
  subst hr
  refine pq_top (y := nI (pd_pf (S 4 cc))) (by rw [hT4]) ?_
  refine pq_icmp_ge (tgt := 35) hx hb (by omega) (by omega) d_PD_shorten_13 (by decide) (fun h1 => ?_) (fun h1 => ?_)
  · have hkk : k = pd_pf (S 4 cc) := by omega
    refine lv_aload_n hx hb d_PD_shorten_35 rfl (lv_at hl 2 rfl) ?_
    refine lv_iload_n hx hb d_PD_shorten_36 rfl (lv_at hl 3 rfl) ?_
    refine pr_size hx hb hg hown hK hP hD hS (i := cc) (by omega) (hg (Cond.fieldLink "PageDrive" 67 "PageDrive$Content" "size" "I") (wG_m2 (List.mem_of_getElem? (i := 34) rfl))) d_PD_shorten_37 (fun H locs hP hD hS => ?_)
    generalize eS3 : pd_st T 4 cc x = S3 at hP hD
    have hokT : pd_ok n T g := pd_ok_congr hok (fun q _ => by rw [hkk, Nat.sub_self]; rfl)
    exact W.vret hx hb hret (fun t9 ht9 hW9 => ⟨⟨_, rfl, ⟨T, hfr, hokT, by rw [← eS3]⟩, by rw [ht9]; exact hP, va_K.moved hW9.alike hK, hD⟩, hS.F ht9⟩) hS.2.2 d_PD_shorten_40
  · obtain ⟨g1, g2, g3⟩ := pd_leave_step h1 (hrow k h1) hok
    have hle := pd_rc_le (fun j => S (8 + cc) (k + j)) (S (8 + cc) k) (pd_pf (S 4 cc) - k)
    have h1b : T 1 (S (8 + cc) k) < 1000000 := by have h9 : T 1 (S (8 + cc) k) = g (S (8 + cc) k) + pd_rc (fun j => S (8 + cc) (k + j)) (S (8 + cc) k) (pd_pf (S 4 cc) - k) := hok.1 _ (hrow k h1); have := hgb (S (8 + cc) k); omega
    refine lv_aload_n hx hb d_PD_shorten_16 rfl (lv_at hl 1 rfl) ?_
    refine va_get (C := "PageDrive") (T := F_PD) (N := 4) hx hb hg iw_PD hown hK hP (0) pw_g0 rfl 0 (by decide) (hg (Cond.fieldLink "PageDrive" 23 "PageDrive" "pool" "LPageDrive$Pool;") (wG_m3 (List.mem_of_getElem? (i := 17) rfl))) (fun _ h9 => h9) rfl d_PD_shorten_17 ?_
    refine lv_aload_n hx hb d_PD_shorten_20 rfl (lv_at hl 2 rfl) ?_
    refine va_get (C := "PageDrive$Content") (T := F_CO) (N := 3) hx hb hg iw_CO hown hK hP (23 + cc) (pw_gC (i := cc) (by omega)) rfl 0 (by decide) (hg (Cond.fieldLink "PageDrive" 171 "PageDrive$Content" "row" "[I") (wG_m2 (List.mem_of_getElem? (i := 32) rfl))) (fun _ h9 => h9) rfl d_PD_shorten_21 ?_
    refine lv_iload_n hx hb d_PD_shorten_24 rfl (lv_at hl 0 rfl) ?_
    refine pq_iald hx hb hK hP (55 + cc) 0 (pw_gR (i := cc) (by omega)) rfl (by omega) (by omega) d_PD_shorten_25 ?_
    refine pq_top (y := nI (S (8 + cc) k)) (by rw [hTr]) ?_
    refine pw_callv (va_runV (As := [.int (nI (S (8 + cc) k))]) (rest := []) ⟨hx, hb, hml, hown, hg⟩ (c_PO_leave l dC dI cI cB cE cL cZ n ad T (S (8 + cc) k) (hrow k h1) hn g2 h1b g1 H.size) (cwV 1 hg (gi_V (fun _ h => h) (wG_m4 (List.mem_of_getElem? (i := 16) rfl)) (wG_m4 (List.mem_of_getElem? (i := 17) rfl)) (wG_m4 (List.mem_of_getElem? (i := 18) rfl)) (wG_m1 (List.mem_of_getElem? (i := 2) rfl)) (wG_m4 (List.mem_of_getElem? (i := 19) rfl))) rfl rfl rfl (by decide +kernel) ⟨Nat.le_of_ble_eq_true rfl, Nat.le_of_ble_eq_true rfl⟩) (pw_pv hK hP hD (va_recv hK hP (ci := 1) (q0 := 1) rfl pw_g1) [.int (nI (S (8 + cc) k))]) rfl rfl hl.1 rfl (lv_room (Nat.le_of_ble_eq_true rfl)) d_PD_shorten_26 ⟨Nat.le_of_ble_eq_true rfl, Nat.le_of_ble_eq_true rfl⟩) hD hS hA (fun T2 H locs hr hP hD hS => ?_)
    refine lv_iinc (v := (nI (k + 1))) (lv' := [(3, .int (nI (k + 1))), (0, .ref (ad 0)), (1, .ref (ad (23 + cc))), (2, .int (nI x))]) hx hb d_PD_shorten_29 hl (k := 0) rfl (pq_inc _) (by decide) rfl (fun ls hl => ?_)
    refine lv_goto (tgt := 5) hx hb d_PD_shorten_32 (by decide) ?_
    subst hr
    exact ih (pd_pf (S 4 cc) - (k + 1)) _ _ _ (by omega) ⟨_, k + 1, rfl, by omega, by omega, pd_fr_tr hfr (pd_fr_leave T _), g3, hP, hD, hS, hl⟩
end
section
/-! THE CLASS, 3: asking -/
set_option maxHeartbeats 4000000 in
set_option maxRecDepth 100000 in
/-- mustCopyLast -/
theorem c_PD_mustCopyLast (l : Launch) (dC : Nat → ClassId) (dI : Nat → Nat → Nat) (cI cB cE cL cZ : ClassId) (n : Nat) (ad : Nat → Nat) (S : pdS) (cc af : Nat) (hn : n ≤ 1024) (hv : pd_v n S) (ho : pd_ok n S (pd_ct S)) (hc : cc < 32) (haf : S 4 cc ≤ af) (haf2 : af < 1000000) (sz : Nat) : CMi l (dC, dI) (pw_ty cI cB cE cL cZ) y_PD_mustCopyLast w_PD_mustCopyLast ({ frames := 1, cells := 0, slots := 0, locals := 21 }) [.ref (ad 0), .ref (ad (23 + cc)), .int (nI af)] (pw n ad cI cB cE S) (fun _ : Unit => pw n ad cI cB cE S) sz (fun r _ => (pd_cp S cc (af - S 4 cc) ∧ r = nI 1) ∨ (¬ pd_cp S cc (af - S 4 cc) ∧ r = nI 0)) := by
  refine Met.ofW (cc := b_PD_mustCopyLast) (maxL := 3) (ret := (some .boolean)) (by decide) rfl ?_
  intro p e s m args below meth c s₁ B hml hv
  obtain ⟨rfl, hsz, hP, hK, hD0⟩ := hv
  have hx := B.exec
  have hb := B.bytes
  have hret := B.returns
  have hts := atoms_spec (ws := w_PD_mustCopyLast) B.pre
  have hg : ∀ w ∈ wsG, w.before _ s = true := fun w h => hts w (List.mem_cons_of_mem _ h)
  have hown : s.vm.findClass "PageDrive" = some m.cls := findClass_of_methodNamed B.named
  have hlocks := B.notSynchronized
  subst hsz
  have hD := hD0.self (sz := s.heap.size)
  generalize hAe : va_A (pw n ad cI cB cE S) s.heap.size = A at hD ⊢
  have hA : ∀ q : Nat, s.heap.size ≤ q → A q := fun q h => by rw [← hAe]; exact Or.inr h
  have hS : va_S A s.heap s.heap [] := va_S.rf
  have hl := lv_entry ([.ref (ad 0), .ref (ad (23 + cc)), .int (nI af)]) (n := 3) (Nat.le_of_ble_eq_true rfl)
  rw [lg_entry_eq]
  generalize (lg_sl ([.ref (ad 0), .ref (ad (23 + cc)), .int (nI af)]) ++ List.replicate (3 - (lg_sl ([.ref (ad 0), .ref (ad (23 + cc)), .int (nI af)])).length) Slot.unset).toArray = ls at hl ⊢
  have hl : lv_has ls 3 [(0, .ref (ad 0)), (1, .ref (ad (23 + cc))), (2, .int (nI af))] := hl
  have hs4 := (hv.1 cc hc).1
  refine lv_iload_n hx hb d_PD_mustCopyLast_0 rfl (lv_at hl 2 rfl) ?_
  refine lv_aload_n hx hb d_PD_mustCopyLast_1 rfl (lv_at hl 1 rfl) ?_
  refine va_get (C := "PageDrive$Content") (T := F_CO) (N := 3) hx hb hg iw_CO hown hK hP (23 + cc) (pw_gC (i := cc) (by omega)) rfl 1 (by decide) (hg (Cond.fieldLink "PageDrive" 67 "PageDrive$Content" "size" "I") (wG_m2 (List.mem_of_getElem? (i := 34) rfl))) (fun _ h9 => h9) rfl d_PD_mustCopyLast_2 ?_
  refine pq_icmp_le (tgt := 44) hx hb (by omega) (by omega) d_PD_mustCopyLast_5 (by decide) (fun h1 => ?_) (fun h1 => ?_)
  · refine lv_iconst (v := nI 0) hx hb d_PD_mustCopyLast_44 (by decide) ?_
    exact W.zret (v := (nI 0)) hx hb hret rfl (fun t9 ht9 hW9 => ⟨⟨_, (), rfl, Or.inr ⟨fun q => by have := q.1; omega, rfl⟩, by rw [ht9]; exact hP, va_K.moved hW9.alike hK, hD⟩, hS.F ht9⟩) hS.2.2 d_PD_mustCopyLast_45
  · refine lv_aload_n hx hb d_PD_mustCopyLast_8 rfl (lv_at hl 1 rfl) ?_
    refine va_get (C := "PageDrive$Content") (T := F_CO) (N := 3) hx hb hg iw_CO hown hK hP (23 + cc) (pw_gC (i := cc) (by omega)) rfl 1 (by decide) (hg (Cond.fieldLink "PageDrive" 67 "PageDrive$Content" "size" "I") (wG_m2 (List.mem_of_getElem? (i := 34) rfl))) (fun _ h9 => h9) rfl d_PD_mustCopyLast_9 ?_
    refine lv_bipush (v := nI 64) hx hb d_PD_mustCopyLast_12 (by decide) ?_
    refine pq_irem hx hb (by omega) (by omega) (by omega) d_PD_mustCopyLast_14 ?_
    refine pq_if_eq (tgt := 44) hx hb (by omega) d_PD_mustCopyLast_15 (by decide) (fun h2 => ?_) (fun h2 => ?_)
    · refine lv_iconst (v := nI 0) hx hb d_PD_mustCopyLast_44 (by decide) ?_
      exact W.zret (v := (nI 0)) hx hb hret rfl (fun t9 ht9 hW9 => ⟨⟨_, (), rfl, Or.inr ⟨fun q => absurd h2 q.2.1, rfl⟩, by rw [ht9]; exact hP, va_K.moved hW9.alike hK, hD⟩, hS.F ht9⟩) hS.2.2 d_PD_mustCopyLast_45
    · have hl0 : S 4 cc / 64 < pd_pf (S 4 cc) := by unfold pd_pf; omega
      have hpg := hv.2.1 cc (S 4 cc / 64) hc hl0
      have hs1 := ho.1 _ hpg
      have hbd := pd_ct_bd hv (S (8 + cc) (S 4 cc / 64))
      refine lv_aload_n hx hb d_PD_mustCopyLast_18 rfl (lv_at hl 0 rfl) ?_
      refine va_get (C := "PageDrive") (T := F_PD) (N := 4) hx hb hg iw_PD hown hK hP (0) pw_g0 rfl 0 (by decide) (hg (Cond.fieldLink "PageDrive" 23 "PageDrive" "pool" "LPageDrive$Pool;") (wG_m3 (List.mem_of_getElem? (i := 17) rfl))) (fun _ h9 => h9) rfl d_PD_mustCopyLast_19 ?_
      refine lv_aload_n hx hb d_PD_mustCopyLast_22 rfl (lv_at hl 1 rfl) ?_
      refine va_get (C := "PageDrive$Content") (T := F_CO) (N := 3) hx hb hg iw_CO hown hK hP (23 + cc) (pw_gC (i := cc) (by omega)) rfl 0 (by decide) (hg (Cond.fieldLink "PageDrive" 171 "PageDrive$Content" "row" "[I") (wG_m2 (List.mem_of_getElem? (i := 32) rfl))) (fun _ h9 => h9) rfl d_PD_mustCopyLast_23 ?_
      refine lv_aload_n hx hb d_PD_mustCopyLast_26 rfl (lv_at hl 1 rfl) ?_
      refine va_get (C := "PageDrive$Content") (T := F_CO) (N := 3) hx hb hg iw_CO hown hK hP (23 + cc) (pw_gC (i := cc) (by omega)) rfl 1 (by decide) (hg (Cond.fieldLink "PageDrive" 67 "PageDrive$Content" "size" "I") (wG_m2 (List.mem_of_getElem? (i := 34) rfl))) (fun _ h9 => h9) rfl d_PD_mustCopyLast_27 ?_
      refine lv_bipush (v := nI 64) hx hb d_PD_mustCopyLast_30 (by decide) ?_
      refine pq_idiv hx hb (by omega) (by omega) (by omega) d_PD_mustCopyLast_32 ?_
      refine pq_iald hx hb hK hP (55 + cc) 0 (pw_gR (i := cc) (by omega)) rfl (by omega) (by omega) d_PD_mustCopyLast_33 ?_
      refine pw_callip (va_runV (As := [.int (nI (S (8 + cc) ((S 4 cc) / 64)))]) (rest := []) ⟨hx, hb, hml, hown, hg⟩ (c_PO_isShared l dC dI cI cB cE cL cZ n ad S (S (8 + cc) (S 4 cc / 64)) hpg hn (by omega) s.heap.size) (cwV 1 hg (gi_V (fun _ h => h) (wG_m7 (List.mem_of_getElem? (i := 28) rfl)) (wG_m7 (List.mem_of_getElem? (i := 29) rfl)) (wG_m7 (List.mem_of_getElem? (i := 30) rfl)) (wG_m1 (List.mem_of_getElem? (i := 2) rfl)) (wG_m7 (List.mem_of_getElem? (i := 31) rfl))) rfl rfl rfl (by decide +kernel) ⟨Nat.le_of_ble_eq_true rfl, Nat.le_of_ble_eq_true rfl⟩) (pw_pv hK hP hD (va_recv hK hP (ci := 1) (q0 := 1) rfl pw_g1) [.int (nI (S (8 + cc) ((S 4 cc) / 64)))]) rfl rfl hl.1 rfl (lv_room (Nat.le_of_ble_eq_true rfl)) d_PD_mustCopyLast_34 ⟨Nat.le_of_ble_eq_true rfl, Nat.le_of_ble_eq_true rfl⟩) hD hS hA (fun r1 H locs hr hP hD hS => ?_)
      rcases hr with ⟨h3, rfl⟩ | ⟨h3, rfl⟩
      · refine pq_if_eq (tgt := 44) hx hb (by omega) d_PD_mustCopyLast_37 (by decide) (fun h9 => absurd h9 (by omega)) (fun _ => ?_)
        refine lv_iconst (v := nI 1) hx hb d_PD_mustCopyLast_40 (by decide) ?_
        refine lv_goto (tgt := 45) hx hb d_PD_mustCopyLast_41 (by decide) ?_
        exact W.zret (v := (nI 1)) hx hb hret rfl (fun t9 ht9 hW9 => ⟨⟨_, (), rfl, Or.inl ⟨⟨by omega, h2, by omega⟩, rfl⟩, by rw [ht9]; exact hP, va_K.moved hW9.alike hK, hD⟩, hS.F ht9⟩) hS.2.2 d_PD_mustCopyLast_45
      · refine pq_if_eq (tgt := 44) hx hb (by omega) d_PD_mustCopyLast_37 (by decide) (fun _ => ?_) (fun h9 => absurd h9 (by omega))
        refine lv_iconst (v := nI 0) hx hb d_PD_mustCopyLast_44 (by decide) ?_
        exact W.zret (v := (nI 0)) hx hb hret rfl (fun t9 ht9 hW9 => ⟨⟨_, (), rfl, Or.inr ⟨fun q => by have := q.2.2; omega, rfl⟩, by rw [ht9]; exact hP, va_K.moved hW9.alike hK, hD⟩, hS.F ht9⟩) hS.2.2 d_PD_mustCopyLast_45
def pd_rm (S : pdS) (cc add : Nat) : Prop := pd_pf (S 4 cc + add) ≤ 400 ∧ ((pd_cp S cc add ∧ pd_pf (S 4 cc + add) - pd_pf (S 4 cc) + 1 ≤ S 7 0) ∨ (¬ pd_cp S cc add ∧ pd_pf (S 4 cc + add) - pd_pf (S 4 cc) ≤ S 7 0))
set_option maxHeartbeats 4000000 in
set_option maxRecDepth 100000 in
/-- hasRoom -/
theorem c_PD_hasRoom (l : Launch) (dC : Nat → ClassId) (dI : Nat → Nat → Nat) (cI cB cE cL cZ : ClassId) (n : Nat) (ad : Nat → Nat) (S : pdS) (cc add : Nat) (hn : n ≤ 1024) (hv : pd_v n S) (ho : pd_ok n S (pd_ct S)) (hc : cc < 32) (haf2 : S 4 cc + add < 1000000) (sz : Nat) : CMi l (dC, dI) (pw_ty cI cB cE cL cZ) y_PD_hasRoom w_PD_hasRoom ({ frames := 2, cells := 0, slots := 0, locals := 43 }) [.ref (ad 0), .ref (ad (23 + cc)), .int (nI (S 4 cc + add))] (pw n ad cI cB cE S) (fun _ : Unit => pw n ad cI cB cE S) sz (fun r _ => (pd_rm S cc add ∧ r = nI 1) ∨ (¬ pd_rm S cc add ∧ r = nI 0)) := by
  refine Met.ofW (cc := b_PD_hasRoom) (maxL := 4) (ret := (some .boolean)) (by decide) rfl ?_
  intro p e s m args below meth c s₁ B hml hv
  obtain ⟨rfl, hsz, hP, hK, hD0⟩ := hv
  have hx := B.exec
  have hb := B.bytes
  have hret := B.returns
  have hts := atoms_spec (ws := w_PD_hasRoom) B.pre
  have hg : ∀ w ∈ wsG, w.before _ s = true := fun w h => hts w (List.mem_cons_of_mem _ h)
  have hown : s.vm.findClass "PageDrive" = some m.cls := findClass_of_methodNamed B.named
  have hlocks := B.notSynchronized
  subst hsz
  have hD := hD0.self (sz := s.heap.size)
  generalize hAe : va_A (pw n ad cI cB cE S) s.heap.size = A at hD ⊢
  have hA : ∀ q : Nat, s.heap.size ≤ q → A q := fun q h => by rw [← hAe]; exact Or.inr h
  have hS : va_S A s.heap s.heap [] := va_S.rf
  have hl := lv_entry ([.ref (ad 0), .ref (ad (23 + cc)), .int (nI (S 4 cc + add))]) (n := 4) (Nat.le_of_ble_eq_true rfl)
  rw [lg_entry_eq]
  generalize (lg_sl ([.ref (ad 0), .ref (ad (23 + cc)), .int (nI (S 4 cc + add))]) ++ List.replicate (4 - (lg_sl ([.ref (ad 0), .ref (ad (23 + cc)), .int (nI (S 4 cc + add))])).length) Slot.unset).toArray = ls at hl ⊢
  have hl : lv_has ls 4 [(0, .ref (ad 0)), (1, .ref (ad (23 + cc))), (2, .int (nI (S 4 cc + add)))] := hl
  have hs4 := (hv.1 cc hc).1
  have hm := pd_pf_mono (show S 4 cc ≤ S 4 cc + add by omega)
  have hu : S 7 0 ≤ n := by have := ho.2.2.2; omega
  have hpb : pd_pf (S 4 cc + add) < 1000000 := by unfold pd_pf; omega
  refine lv_iload_n hx hb d_PD_hasRoom_0 rfl (lv_at hl 2 rfl) ?_
  refine pw_callip (va_runS (As := [.int (nI (S 4 cc + add))]) (rest := []) ⟨hx, hb, hml, hown, hg⟩ (c_PD_pagesFor l dC dI cI cB cE cL cZ (pw n ad cI cB cE S) (S 4 cc + add) (by omega) s.heap.size) (cwS 1 hg (gi_S (fun _ h => h) (wG_m4 (List.mem_of_getElem? (i := 6) rfl)) (wG_m4 (List.mem_of_getElem? (i := 7) rfl)) (wG_m1 (List.mem_of_getElem? (i := 1) rfl)) (wG_m4 (List.mem_of_getElem? (i := 8) rfl))) rfl rfl rfl (by decide +kernel) ⟨Nat.le_of_ble_eq_true rfl, Nat.le_of_ble_eq_true rfl⟩) (pw_ps hK hP hD [.int (nI (S 4 cc + add))]) rfl rfl hl.1 rfl (lv_room (Nat.le_of_ble_eq_true rfl)) d_PD_hasRoom_1 ⟨Nat.le_of_ble_eq_true rfl, Nat.le_of_ble_eq_true rfl⟩) hD hS hA (fun r1 H locs hr hP hD hS => ?_)
  subst hr
  refine lv_aload_n hx hb d_PD_hasRoom_4 rfl (lv_at hl 1 rfl) ?_
  refine va_get (C := "PageDrive$Content") (T := F_CO) (N := 3) hx hb hg iw_CO hown hK hP (23 + cc) (pw_gC (i := cc) (by omega)) rfl 1 (by decide) (hg (Cond.fieldLink "PageDrive" 67 "PageDrive$Content" "size" "I") (wG_m2 (List.mem_of_getElem? (i := 34) rfl))) (fun _ h9 => h9) rfl d_PD_hasRoom_5 ?_
  refine pw_callip (va_runS (As := [.int (nI (S 4 cc))]) (rest := [.int (nI (pd_pf (S 4 cc + add)))]) ⟨hx, hb, hml, hown, hg⟩ (c_PD_pagesFor l dC dI cI cB cE cL cZ (pw n ad cI cB cE S) (S 4 cc) (by omega) H.size) (cwS 1 hg (gi_S (fun _ h => h) (wG_m4 (List.mem_of_getElem? (i := 6) rfl)) (wG_m4 (List.mem_of_getElem? (i := 7) rfl)) (wG_m1 (List.mem_of_getElem? (i := 1) rfl)) (wG_m4 (List.mem_of_getElem? (i := 8) rfl))) rfl rfl rfl (by decide +kernel) ⟨Nat.le_of_ble_eq_true rfl, Nat.le_of_ble_eq_true rfl⟩) (pw_ps hK hP hD [.int (nI (S 4 cc))]) rfl rfl hl.1 rfl (lv_room (Nat.le_of_ble_eq_true rfl)) d_PD_hasRoom_8 ⟨Nat.le_of_ble_eq_true rfl, Nat.le_of_ble_eq_true rfl⟩) hD hS hA (fun r2 H locs hr hP hD hS => ?_)
  subst hr
  refine pq_isub hx hb (by omega) d_PD_hasRoom_11 ?_
  refine lv_aload_n hx hb d_PD_hasRoom_12 rfl (lv_at hl 0 rfl) ?_
  refine lv_aload_n hx hb d_PD_hasRoom_13 rfl (lv_at hl 1 rfl) ?_
  refine lv_iload_n hx hb d_PD_hasRoom_14 rfl (lv_at hl 2 rfl) ?_
  refine pw_callip (va_runV (As := [.ref (ad (23 + cc)), .int (nI (S 4 cc + add))]) (rest := [.int (nI ((pd_pf (S 4 cc + add)) - (pd_pf (S 4 cc))))]) ⟨hx, hb, hml, hown, hg⟩ (c_PD_mustCopyLast l dC dI cI cB cE cL cZ n ad S cc (S 4 cc + add) hn hv ho hc (by omega) haf2 H.size) (cwV 2 hg (gi_V (fun _ h => h) (wG_m7 (List.mem_of_getElem? (i := 25) rfl)) (wG_m7 (List.mem_of_getElem? (i := 26) rfl)) (wG_m14 (List.mem_of_getElem? (i := 7) rfl)) (wG_m1 (List.mem_of_getElem? (i := 1) rfl)) (wG_m7 (List.mem_of_getElem? (i := 27) rfl))) rfl rfl rfl (by decide +kernel) ⟨Nat.le_of_ble_eq_true rfl, Nat.le_of_ble_eq_true rfl⟩) (pw_pv hK hP hD (va_recv hK hP (ci := 0) (q0 := 0) rfl pw_g0) [.ref (ad (23 + cc)), .int (nI (S 4 cc + add))]) rfl rfl hl.1 rfl (lv_room (Nat.le_of_ble_eq_true rfl)) d_PD_hasRoom_15 ⟨Nat.le_of_ble_eq_true rfl, Nat.le_of_ble_eq_true rfl⟩) hD hS hA (fun r3 H locs hr hP hD hS => ?_)
  rw [Nat.add_sub_cancel_left] at hr
  generalize hne : pd_pf (S 4 cc + add) - pd_pf (S 4 cc) = need
  rcases hr with ⟨h3, rfl⟩ | ⟨h3, rfl⟩
  · refine pq_if_eq (tgt := 25) hx hb (by omega) d_PD_hasRoom_18 (by decide) (fun h9 => absurd h9 (by omega)) (fun _ => ?_)
    refine lv_iconst (v := nI 1) hx hb d_PD_hasRoom_21 (by decide) ?_
    refine lv_goto (tgt := 26) hx hb d_PD_hasRoom_22 (by decide) ?_
    refine pq_iadd hx hb d_PD_hasRoom_26 ?_
    refine lv_istore_n (lv' := [(3, .int (nI (need + 1))), (0, .ref (ad 0)), (1, .ref (ad (23 + cc))), (2, .int (nI (S 4 cc + add)))]) hx hb d_PD_hasRoom_27 rfl hl (by decide) rfl (fun ls hl => ?_)
    refine lv_iload_n hx hb d_PD_hasRoom_28 rfl (lv_at hl 3 rfl) ?_
    refine pw_callip (va_runS (As := [.int (nI (S 4 cc + add))]) (rest := []) ⟨hx, hb, hml, hown, hg⟩ (c_PD_pagesFor l dC dI cI cB cE cL cZ (pw n ad cI cB cE S) (S 4 cc + add) (by omega) H.size) (cwS 1 hg (gi_S (fun _ h => h) (wG_m4 (List.mem_of_getElem? (i := 6) rfl)) (wG_m4 (List.mem_of_getElem? (i := 7) rfl)) (wG_m1 (List.mem_of_getElem? (i := 1) rfl)) (wG_m4 (List.mem_of_getElem? (i := 8) rfl))) rfl rfl rfl (by decide +kernel) ⟨Nat.le_of_ble_eq_true rfl, Nat.le_of_ble_eq_true rfl⟩) (pw_ps hK hP hD [.int (nI (S 4 cc + add))]) rfl rfl hl.1 rfl (lv_room (Nat.le_of_ble_eq_true rfl)) d_PD_hasRoom_29 ⟨Nat.le_of_ble_eq_true rfl, Nat.le_of_ble_eq_true rfl⟩) hD hS hA (fun r3 H locs hr hP hD hS => ?_)
    subst hr
    refine lv_sipush (v := nI 400) hx hb d_PD_hasRoom_32 (by decide) ?_
    refine pq_icmp_gt (tgt := 53) hx hb (by omega) (by omega) d_PD_hasRoom_35 (by decide) (fun h4 => ?_) (fun h4 => ?_)
    · refine lv_iconst (v := nI 0) hx hb d_PD_hasRoom_53 (by decide) ?_
      exact W.zret (v := (nI 0)) hx hb hret rfl (fun t9 ht9 hW9 => ⟨⟨_, (), rfl, Or.inr ⟨fun q => by have := q.1; omega, rfl⟩, by rw [ht9]; exact hP, va_K.moved hW9.alike hK, hD⟩, hS.F ht9⟩) hS.2.2 d_PD_hasRoom_54
    · refine lv_iload_n hx hb d_PD_hasRoom_38 rfl (lv_at hl 0 rfl) ?_
      refine lv_aload_n hx hb d_PD_hasRoom_39 rfl (lv_at hl 1 rfl) ?_
      refine va_get (C := "PageDrive") (T := F_PD) (N := 4) hx hb hg iw_PD hown hK hP (0) pw_g0 rfl 0 (by decide) (hg (Cond.fieldLink "PageDrive" 23 "PageDrive" "pool" "LPageDrive$Pool;") (wG_m3 (List.mem_of_getElem? (i := 17) rfl))) (fun _ h9 => h9) rfl d_PD_hasRoom_40 ?_
      refine va_get (C := "PageDrive$Pool") (T := F_PO) (N := 6) hx hb hg iw_PO hown hK hP (1) pw_g1 rfl 4 (by decide) (hg (Cond.fieldLink "PageDrive" 162 "PageDrive$Pool" "unusedCount" "I") (wG_m2 (List.mem_of_getElem? (i := 3) rfl))) (fun _ h9 => h9) rfl d_PD_hasRoom_43 ?_
      refine pq_icmp_gt (tgt := 53) hx hb (by omega) (by omega) d_PD_hasRoom_46 (by decide) (fun h5 => ?_) (fun h5 => ?_)
      · refine lv_iconst (v := nI 0) hx hb d_PD_hasRoom_53 (by decide) ?_
        exact W.zret (v := (nI 0)) hx hb hret rfl (fun t9 ht9 hW9 => ⟨⟨_, (), rfl, Or.inr ⟨fun q => by rcases q.2 with ⟨q1, q2⟩ | ⟨q1, q2⟩ <;> first | exact absurd h3 q1 | exact absurd q1 h3 | omega, rfl⟩, by rw [ht9]; exact hP, va_K.moved hW9.alike hK, hD⟩, hS.F ht9⟩) hS.2.2 d_PD_hasRoom_54
      · refine lv_iconst (v := nI 1) hx hb d_PD_hasRoom_49 (by decide) ?_
        refine lv_goto (tgt := 54) hx hb d_PD_hasRoom_50 (by decide) ?_
        exact W.zret (v := (nI 1)) hx hb hret rfl (fun t9 ht9 hW9 => ⟨⟨_, (), rfl, Or.inl ⟨⟨by omega, Or.inl ⟨h3, by omega⟩⟩, rfl⟩, by rw [ht9]; exact hP, va_K.moved hW9.alike hK, hD⟩, hS.F ht9⟩) hS.2.2 d_PD_hasRoom_54
  · refine pq_if_eq (tgt := 25) hx hb (by omega) d_PD_hasRoom_18 (by decide) (fun _ => ?_) (fun h9 => absurd h9 (by omega))
    refine lv_iconst (v := nI 0) hx hb d_PD_hasRoom_25 (by decide) ?_
    refine pq_iadd hx hb d_PD_hasRoom_26 ?_
    refine lv_istore_n (lv' := [(3, .int (nI (need + 0))), (0, .ref (ad 0)), (1, .ref (ad (23 + cc))), (2, .int (nI (S 4 cc + add)))]) hx hb d_PD_hasRoom_27 rfl hl (by decide) rfl (fun ls hl => ?_)
    refine lv_iload_n hx hb d_PD_hasRoom_28 rfl (lv_at hl 3 rfl) ?_
    refine pw_callip (va_runS (As := [.int (nI (S 4 cc + add))]) (rest := []) ⟨hx, hb, hml, hown, hg⟩ (c_PD_pagesFor l dC dI cI cB cE cL cZ (pw n ad cI cB cE S) (S 4 cc + add) (by omega) H.size) (cwS 1 hg (gi_S (fun _ h => h) (wG_m4 (List.mem_of_getElem? (i := 6) rfl)) (wG_m4 (List.mem_of_getElem? (i := 7) rfl)) (wG_m1 (List.mem_of_getElem? (i := 1) rfl)) (wG_m4 (List.mem_of_getElem? (i := 8) rfl))) rfl rfl rfl (by decide +kernel) ⟨Nat.le_of_ble_eq_true rfl, Nat.le_of_ble_eq_true rfl⟩) (pw_ps hK hP hD [.int (nI (S 4 cc + add))]) rfl rfl hl.1 rfl (lv_room (Nat.le_of_ble_eq_true rfl)) d_PD_hasRoom_29 ⟨Nat.le_of_ble_eq_true rfl, Nat.le_of_ble_eq_true rfl⟩) hD hS hA (fun r4 H locs hr hP hD hS => ?_)
    subst hr
    refine lv_sipush (v := nI 400) hx hb d_PD_hasRoom_32 (by decide) ?_
    refine pq_icmp_gt (tgt := 53) hx hb (by omega) (by omega) d_PD_hasRoom_35 (by decide) (fun h4 => ?_) (fun h4 => ?_)
    · refine lv_iconst (v := nI 0) hx hb d_PD_hasRoom_53 (by decide) ?_
      exact W.zret (v := (nI 0)) hx hb hret rfl (fun t9 ht9 hW9 => ⟨⟨_, (), rfl, Or.inr ⟨fun q => by have := q.1; omega, rfl⟩, by rw [ht9]; exact hP, va_K.moved hW9.alike hK, hD⟩, hS.F ht9⟩) hS.2.2 d_PD_hasRoom_54
    · refine lv_iload_n hx hb d_PD_hasRoom_38 rfl (lv_at hl 0 rfl) ?_
      refine lv_aload_n hx hb d_PD_hasRoom_39 rfl (lv_at hl 1 rfl) ?_
      refine va_get (C := "PageDrive") (T := F_PD) (N := 4) hx hb hg iw_PD hown hK hP (0) pw_g0 rfl 0 (by decide) (hg (Cond.fieldLink "PageDrive" 23 "PageDrive" "pool" "LPageDrive$Pool;") (wG_m3 (List.mem_of_getElem? (i := 17) rfl))) (fun _ h9 => h9) rfl d_PD_hasRoom_40 ?_
      refine va_get (C := "PageDrive$Pool") (T := F_PO) (N := 6) hx hb hg iw_PO hown hK hP (1) pw_g1 rfl 4 (by decide) (hg (Cond.fieldLink "PageDrive" 162 "PageDrive$Pool" "unusedCount" "I") (wG_m2 (List.mem_of_getElem? (i := 3) rfl))) (fun _ h9 => h9) rfl d_PD_hasRoom_43 ?_
      refine pq_icmp_gt (tgt := 53) hx hb (by omega) (by omega) d_PD_hasRoom_46 (by decide) (fun h5 => ?_) (fun h5 => ?_)
      · refine lv_iconst (v := nI 0) hx hb d_PD_hasRoom_53 (by decide) ?_
        exact W.zret (v := (nI 0)) hx hb hret rfl (fun t9 ht9 hW9 => ⟨⟨_, (), rfl, Or.inr ⟨fun q => by rcases q.2 with ⟨q1, q2⟩ | ⟨q1, q2⟩ <;> first | exact absurd h3 q1 | exact absurd q1 h3 | omega, rfl⟩, by rw [ht9]; exact hP, va_K.moved hW9.alike hK, hD⟩, hS.F ht9⟩) hS.2.2 d_PD_hasRoom_54
      · refine lv_iconst (v := nI 1) hx hb d_PD_hasRoom_49 (by decide) ?_
        refine lv_goto (tgt := 54) hx hb d_PD_hasRoom_50 (by decide) ?_
        exact W.zret (v := (nI 1)) hx hb hret rfl (fun t9 ht9 hW9 => ⟨⟨_, (), rfl, Or.inl ⟨⟨by omega, Or.inr ⟨h3, by omega⟩⟩, rfl⟩, by rw [ht9]; exact hP, va_K.moved hW9.alike hK, hD⟩, hS.F ht9⟩) hS.2.2 d_PD_hasRoom_54
set_option maxHeartbeats 4000000 in
set_option maxRecDepth 100000 in
/-- filesThere -/
theorem c_PD_filesThere (l : Launch) (dC : Nat → ClassId) (dI : Nat → Nat → Nat) (cI cB cE cL cZ : ClassId) (n : Nat) (ad : Nat → Nat) (S : pdS) (h5 : ∀ d, d < 32 → S 5 d ≤ 1) (sz : Nat) : CMi l (dC, dI) (pw_ty cI cB cE cL cZ) y_PD_filesThere w_PD_filesThere ({ frames := 0, cells := 0, slots := 0, locals := 0 }) [.ref (ad 0)] (pw n ad cI cB cE S) (fun _ : Unit => pw n ad cI cB cE S) sz (fun r _ => r = nI (pd_th S)) := by
  refine Met.ofW (cc := b_PD_filesThere) (maxL := 3) (ret := (some .int)) (by decide) rfl ?_
  intro p e s m args below meth c s₁ B hml hv
  obtain ⟨rfl, hsz, hP, hK, hD0⟩ := hv
  have hx := B.exec
  have hb := B.bytes
  have hret := B.returns
  have hts := atoms_spec (ws := w_PD_filesThere) B.pre
  have hg : ∀ w ∈ wsG, w.before _ s = true := fun w h => hts w (List.mem_cons_of_mem _ h)
  have hown : s.vm.findClass "PageDrive" = some m.cls := findClass_of_methodNamed B.named
  have hlocks := B.notSynchronized
  subst hsz
  have hD := hD0.self (sz := s.heap.size)
  generalize hAe : va_A (pw n ad cI cB cE S) s.heap.size = A at hD ⊢
  have hA : ∀ q : Nat, s.heap.size ≤ q → A q := fun q h => by rw [← hAe]; exact Or.inr h
  have hS : va_S A s.heap s.heap [] := va_S.rf
  have hl := lv_entry ([.ref (ad 0)]) (n := 3) (Nat.le_of_ble_eq_true rfl)
  rw [lg_entry_eq]
  generalize (lg_sl ([.ref (ad 0)]) ++ List.replicate (3 - (lg_sl ([.ref (ad 0)])).length) Slot.unset).toArray = ls at hl ⊢
  have hl : lv_has ls 3 [(0, .ref (ad 0))] := hl
  refine lv_iconst (v := nI 0) hx hb d_PD_filesThere_0 (by decide) ?_
  refine lv_istore_n (lv' := [(1, .int (nI 0)), (0, .ref (ad 0))]) hx hb d_PD_filesThere_1 rfl hl (by decide) rfl (fun ls hl => ?_)
  refine lv_iconst (v := nI 0) hx hb d_PD_filesThere_2 (by decide) ?_
  refine lv_istore_n (lv' := [(2, .int (nI 0)), (1, .int (nI 0)), (0, .ref (ad 0))]) hx hb d_PD_filesThere_3 rfl hl (by decide) rfl (fun ls hl => ?_)
  refine pw_loop (fun mm H locs ls => ∃ k : Nat, mm = 16 - k ∧ k ≤ 16 ∧ va_P (dC, dI) pwCl (pw n ad cI cB cE S) H ∧ va_D A (pw n ad cI cB cE S) ∧ va_S A s.heap H locs ∧ lv_has ls 3 [(2, .int (nI k)), (1, .int (nI (pd_sm (fun i => S 5 (2 * i)) k))), (0, .ref (ad 0))]) ?_ _ _ _ _ ⟨0, rfl, by omega, hP, hD, hS, hl⟩
  rintro mm H locs ls ⟨k, hmm, hk, hP, hD, hS, hl⟩ ih
  refine lv_iload_n hx hb d_PD_filesThere_4 rfl (lv_at hl 0 rfl) ?_
  refine lv_bipush (v := nI 16) hx hb d_PD_filesThere_5 (by decide) ?_
  refine pq_icmp_ge (tgt := 34) hx hb (by omega) (by omega) d_PD_filesThere_7 (by decide) (fun h1 => ?_) (fun h1 => ?_)
  · have hk16 : k = 16 := by omega
    subst hk16
    refine lv_iload_n hx hb d_PD_filesThere_34 rfl (lv_at hl 1 rfl) ?_
    exact W.iret (v := (nI (pd_sm (fun i => S 5 (2 * i)) 16))) hx hb hret (fun t9 ht9 hW9 => ⟨⟨_, (), rfl, rfl, by rw [ht9]; exact hP, va_K.moved hW9.alike hK, hD⟩, hS.F ht9⟩) hS.2.2 d_PD_filesThere_35
  · have h50 := h5 (2 * k) (by omega)
    refine lv_aload_n hx hb d_PD_filesThere_10 rfl (lv_at hl 2 rfl) ?_
    refine va_get (C := "PageDrive") (T := F_PD) (N := 4) hx hb hg iw_PD hown hK hP (0) pw_g0 rfl 1 (by decide) (hg (Cond.fieldLink "PageDrive" 29 "PageDrive" "entries" "[LPageDrive$Entry;") (wG_m3 (List.mem_of_getElem? (i := 18) rfl))) (fun _ h9 => h9) rfl d_PD_filesThere_11 ?_
    refine lv_iload_n hx hb d_PD_filesThere_14 rfl (lv_at hl 0 rfl) ?_
    refine pr_ent hx hb hK hP (i := k) (by omega) rfl d_PD_filesThere_15 ?_
    refine va_get (C := "PageDrive$Entry") (T := F_EN) (N := 3) hx hb hg iw_EN hown hK hP (7 + k) (pw_gE (i := k) (by omega)) rfl 0 (by decide) (hg (Cond.fieldLink "PageDrive" 63 "PageDrive$Entry" "now" "LPageDrive$Content;") (wG_m3 (List.mem_of_getElem? (i := 5) rfl))) (fun _ h9 => h9) rfl d_PD_filesThere_16 ?_
    refine va_get (C := "PageDrive$Content") (T := F_CO) (N := 3) hx hb hg iw_CO hown hK hP (23 + (2 * k)) (pw_gC (i := 2 * k) (by omega)) rfl 2 (by decide) (hg (Cond.fieldLink "PageDrive" 91 "PageDrive$Content" "there" "Z") (wG_m2 (List.mem_of_getElem? (i := 36) rfl))) (fun _ h9 => h9) rfl d_PD_filesThere_19 ?_
    refine pq_if_eq (tgt := 28) hx hb (by omega) d_PD_filesThere_22 (by decide) (fun h2 => ?_) (fun h2 => ?_)
    · refine lv_iinc (v := (nI (k + 1))) (lv' := [(2, .int (nI (k + 1))), (1, .int (nI (pd_sm (fun i => S 5 (2 * i)) k))), (0, .ref (ad 0))]) hx hb d_PD_filesThere_28 hl (k := 0) rfl (pq_inc _) (by decide) rfl (fun ls hl => ?_)
      refine lv_goto (tgt := 4) hx hb d_PD_filesThere_31 (by decide) ?_
      exact ih (16 - (k + 1)) _ _ _ (by omega) ⟨k + 1, rfl, by omega, hP, hD, hS, by simp only [pd_sm]; rw [h2, Nat.add_zero]; exact hl⟩
    · refine lv_iinc (v := (nI ((pd_sm (fun i => S 5 (2 * i)) k) + 1))) (lv' := [(1, .int (nI ((pd_sm (fun i => S 5 (2 * i)) k) + 1))), (2, .int (nI k)), (0, .ref (ad 0))]) hx hb d_PD_filesThere_25 hl (k := 1) rfl (pq_inc _) (by decide) rfl (fun ls hl => ?_)
      refine lv_iinc (v := (nI (k + 1))) (lv' := [(2, .int (nI (k + 1))), (1, .int (nI ((pd_sm (fun i => S 5 (2 * i)) k) + 1))), (0, .ref (ad 0))]) hx hb d_PD_filesThere_28 hl (k := 1) rfl (pq_inc _) (by decide) rfl (fun ls hl => ?_)
      refine lv_goto (tgt := 4) hx hb d_PD_filesThere_31 (by decide) ?_
      exact ih (16 - (k + 1)) _ _ _ (by omega) ⟨k + 1, rfl, by omega, hP, hD, hS, by simp only [pd_sm]; rw [show S 5 (2 * k) = 1 by omega]; exact lv_sub hl [0, 1, 2] rfl⟩
set_option maxHeartbeats 4000000 in
set_option maxRecDepth 100000 in
/-- sharedPages -/
theorem c_PD_sharedPages (l : Launch) (dC : Nat → ClassId) (dI : Nat → Nat → Nat) (cI cB cE cL cZ : ClassId) (n : Nat) (ad : Nat → Nat) (S : pdS) (cc : Nat) (hn : n ≤ 1024) (hv : pd_v n S) (ho : pd_ok n S (pd_ct S)) (hc : cc < 32) (sz : Nat) : CMi l (dC, dI) (pw_ty cI cB cE cL cZ) y_PD_sharedPages w_PD_sharedPages ({ frames := 1, cells := 0, slots := 0, locals := 21 }) [.ref (ad 0), .ref (ad (23 + cc))] (pw n ad cI cB cE S) (fun _ : Unit => pw n ad cI cB cE S) sz (fun r _ => r = nI (pd_shd S cc)) := by
  refine Met.ofW (cc := b_PD_sharedPages) (maxL := 4) (ret := (some .int)) (by decide) rfl ?_
  intro p e s m args below meth c s₁ B hml hv
  obtain ⟨rfl, hsz, hP, hK, hD0⟩ := hv
  have hx := B.exec
  have hb := B.bytes
  have hret := B.returns
  have hts := atoms_spec (ws := w_PD_sharedPages) B.pre
  have hg : ∀ w ∈ wsG, w.before _ s = true := fun w h => hts w (List.mem_cons_of_mem _ h)
  have hown : s.vm.findClass "PageDrive" = some m.cls := findClass_of_methodNamed B.named
  have hlocks := B.notSynchronized
  subst hsz
  have hD := hD0.self (sz := s.heap.size)
  generalize hAe : va_A (pw n ad cI cB cE S) s.heap.size = A at hD ⊢
  have hA : ∀ q : Nat, s.heap.size ≤ q → A q := fun q h => by rw [← hAe]; exact Or.inr h
  have hS : va_S A s.heap s.heap [] := va_S.rf
  have hl := lv_entry ([.ref (ad 0), .ref (ad (23 + cc))]) (n := 4) (Nat.le_of_ble_eq_true rfl)
  rw [lg_entry_eq]
  generalize (lg_sl ([.ref (ad 0), .ref (ad (23 + cc))]) ++ List.replicate (4 - (lg_sl ([.ref (ad 0), .ref (ad (23 + cc))])).length) Slot.unset).toArray = ls at hl ⊢
  have hl : lv_has ls 4 [(0, .ref (ad 0)), (1, .ref (ad (23 + cc)))] := hl
  have hs4 := (hv.1 cc hc).1
  have h400 : pd_pf (S 4 cc) ≤ 400 := by unfold pd_pf; omega
  refine lv_iconst (v := nI 0) hx hb d_PD_sharedPages_0 (by decide) ?_
  refine lv_istore_n (lv' := [(2, .int (nI 0)), (0, .ref (ad 0)), (1, .ref (ad (23 + cc)))]) hx hb d_PD_sharedPages_1 rfl hl (by decide) rfl (fun ls hl => ?_)
  refine lv_iconst (v := nI 0) hx hb d_PD_sharedPages_2 (by decide) ?_
  refine lv_istore_n (lv' := [(3, .int (nI 0)), (2, .int (nI 0)), (0, .ref (ad 0)), (1, .ref (ad (23 + cc)))]) hx hb d_PD_sharedPages_3 rfl hl (by decide) rfl (fun ls hl => ?_)
  refine pw_loop (fun mm H locs ls => ∃ k : Nat, mm = pd_pf (S 4 cc) - k ∧ k ≤ pd_pf (S 4 cc) ∧ va_P (dC, dI) pwCl (pw n ad cI cB cE S) H ∧ va_D A (pw n ad cI cB cE S) ∧ va_S A s.heap H locs ∧ lv_has ls 4 [(3, .int (nI k)), (2, .int (nI (pd_sm (fun k => if 1 < pd_ct S (S (8 + cc) k) then 1 else 0) k))), (0, .ref (ad 0)), (1, .ref (ad (23 + cc)))]) ?_ _ _ _ _ ⟨0, rfl, by omega, hP, hD, hS, hl⟩
  rintro mm H locs ls ⟨k, hmm, hk, hP, hD, hS, hl⟩ ih
  refine lv_iload_n hx hb d_PD_sharedPages_4 rfl (lv_at hl 0 rfl) ?_
  refine lv_aload_n hx hb d_PD_sharedPages_5 rfl (lv_at hl 3 rfl) ?_
  refine va_get (C := "PageDrive$Content") (T := F_CO) (N := 3) hx hb hg iw_CO hown hK hP (23 + cc) (pw_gC (i := cc) (by omega)) rfl 1 (by decide) (hg (Cond.fieldLink "PageDrive" 67 "PageDrive$Content" "size" "I") (wG_m2 (List.mem_of_getElem? (i := 34) rfl))) (fun _ h9 => h9) rfl d_PD_sharedPages_6 ?_
  refine pw_callip (va_runS (As := [.int (nI (S 4 cc))]) (rest := [.int (nI k)]) ⟨hx, hb, hml, hown, hg⟩ (c_PD_pagesFor l dC dI cI cB cE cL cZ (pw n ad cI cB cE S) (S 4 cc) (by omega) H.size) (cwS 1 hg (gi_S (fun _ h => h) (wG_m4 (List.mem_of_getElem? (i := 6) rfl)) (wG_m4 (List.mem_of_getElem? (i := 7) rfl)) (wG_m1 (List.mem_of_getElem? (i := 1) rfl)) (wG_m4 (List.mem_of_getElem? (i := 8) rfl))) rfl rfl rfl (by decide +kernel) ⟨Nat.le_of_ble_eq_true rfl, Nat.le_of_ble_eq_true rfl⟩) (pw_ps hK hP hD [.int (nI (S 4 cc))]) rfl rfl hl.1 rfl (lv_room (Nat.le_of_ble_eq_true rfl)) d_PD_sharedPages_9 ⟨Nat.le_of_ble_eq_true rfl, Nat.le_of_ble_eq_true rfl⟩) hD hS hA (fun r1 H locs hr hP hD hS => ?_)
  subst hr
  refine pq_icmp_ge (tgt := 40) hx hb (by omega) (by omega) d_PD_sharedPages_12 (by decide) (fun h1 => ?_) (fun h1 => ?_)
  · have hk16 : k = pd_pf (S 4 cc) := by omega
    subst hk16
    refine lv_iload_n hx hb d_PD_sharedPages_40 rfl (lv_at hl 1 rfl) ?_
    exact W.iret (v := (nI (pd_sm (fun k => if 1 < pd_ct S (S (8 + cc) k) then 1 else 0) (pd_pf (S 4 cc))))) hx hb hret (fun t9 ht9 hW9 => ⟨⟨_, (), rfl, rfl, by rw [ht9]; exact hP, va_K.moved hW9.alike hK, hD⟩, hS.F ht9⟩) hS.2.2 d_PD_sharedPages_41
  · have hpg := hv.2.1 cc k hc h1
    have hs1 := ho.1 _ hpg
    have hbd := pd_ct_bd hv (S (8 + cc) k)
    refine lv_aload_n hx hb d_PD_sharedPages_15 rfl (lv_at hl 2 rfl) ?_
    refine va_get (C := "PageDrive") (T := F_PD) (N := 4) hx hb hg iw_PD hown hK hP (0) pw_g0 rfl 0 (by decide) (hg (Cond.fieldLink "PageDrive" 23 "PageDrive" "pool" "LPageDrive$Pool;") (wG_m3 (List.mem_of_getElem? (i := 17) rfl))) (fun _ h9 => h9) rfl d_PD_sharedPages_16 ?_
    refine lv_aload_n hx hb d_PD_sharedPages_19 rfl (lv_at hl 3 rfl) ?_
    refine va_get (C := "PageDrive$Content") (T := F_CO) (N := 3) hx hb hg iw_CO hown hK hP (23 + cc) (pw_gC (i := cc) (by omega)) rfl 0 (by decide) (hg (Cond.fieldLink "PageDrive" 171 "PageDrive$Content" "row" "[I") (wG_m2 (List.mem_of_getElem? (i := 32) rfl))) (fun _ h9 => h9) rfl d_PD_sharedPages_20 ?_
    refine lv_iload_n hx hb d_PD_sharedPages_23 rfl (lv_at hl 0 rfl) ?_
    refine pq_iald hx hb hK hP (55 + cc) 0 (pw_gR (i := cc) (by omega)) rfl (by omega) (by omega) d_PD_sharedPages_24 ?_
    refine pw_callip (va_runV (As := [.int (nI (S (8 + cc) k))]) (rest := []) ⟨hx, hb, hml, hown, hg⟩ (c_PO_isShared l dC dI cI cB cE cL cZ n ad S (S (8 + cc) k) hpg hn (by omega) H.size) (cwV 1 hg (gi_V (fun _ h => h) (wG_m7 (List.mem_of_getElem? (i := 28) rfl)) (wG_m7 (List.mem_of_getElem? (i := 29) rfl)) (wG_m7 (List.mem_of_getElem? (i := 30) rfl)) (wG_m1 (List.mem_of_getElem? (i := 2) rfl)) (wG_m7 (List.mem_of_getElem? (i := 31) rfl))) rfl rfl rfl (by decide +kernel) ⟨Nat.le_of_ble_eq_true rfl, Nat.le_of_ble_eq_true rfl⟩) (pw_pv hK hP hD (va_recv hK hP (ci := 1) (q0 := 1) rfl pw_g1) [.int (nI (S (8 + cc) k))]) rfl rfl hl.1 rfl (lv_room (Nat.le_of_ble_eq_true rfl)) d_PD_sharedPages_25 ⟨Nat.le_of_ble_eq_true rfl, Nat.le_of_ble_eq_true rfl⟩) hD hS hA (fun r1 H locs hr hP hD hS => ?_)
    rcases hr with ⟨h3, rfl⟩ | ⟨h3, rfl⟩
    · refine pq_if_eq (tgt := 34) hx hb (by omega) d_PD_sharedPages_28 (by decide) (fun h9 => absurd h9 (by omega)) (fun _ => ?_)
      refine lv_iinc (v := (nI ((pd_sm (fun k => if 1 < pd_ct S (S (8 + cc) k) then 1 else 0) k) + 1))) (lv' := [(2, .int (nI ((pd_sm (fun k => if 1 < pd_ct S (S (8 + cc) k) then 1 else 0) k) + 1))), (3, .int (nI k)), (0, .ref (ad 0)), (1, .ref (ad (23 + cc)))]) hx hb d_PD_sharedPages_31 hl (k := 1) rfl (pq_inc _) (by decide) rfl (fun ls hl => ?_)
      refine lv_iinc (v := (nI (k + 1))) (lv' := [(3, .int (nI (k + 1))), (2, .int (nI ((pd_sm (fun k => if 1 < pd_ct S (S (8 + cc) k) then 1 else 0) k) + 1))), (0, .ref (ad 0)), (1, .ref (ad (23 + cc)))]) hx hb d_PD_sharedPages_34 hl (k := 1) rfl (pq_inc _) (by decide) rfl (fun ls hl => ?_)
      refine lv_goto (tgt := 4) hx hb d_PD_sharedPages_37 (by decide) ?_
      exact ih _ _ _ _ (by omega) ⟨k + 1, rfl, by omega, hP, hD, hS, by simp only [pd_sm]; rw [if_pos (by omega)]; exact hl⟩
    · refine pq_if_eq (tgt := 34) hx hb (by omega) d_PD_sharedPages_28 (by decide) (fun _ => ?_) (fun h9 => absurd h9 (by omega))
      refine lv_iinc (v := (nI (k + 1))) (lv' := [(3, .int (nI (k + 1))), (2, .int (nI (pd_sm (fun k => if 1 < pd_ct S (S (8 + cc) k) then 1 else 0) k))), (0, .ref (ad 0)), (1, .ref (ad (23 + cc)))]) hx hb d_PD_sharedPages_34 hl (k := 0) rfl (pq_inc _) (by decide) rfl (fun ls hl => ?_)
      refine lv_goto (tgt := 4) hx hb d_PD_sharedPages_37 (by decide) ?_
      exact ih _ _ _ _ (by omega) ⟨k + 1, rfl, by omega, hP, hD, hS, by simp only [pd_sm]; rw [if_neg (by omega), Nat.add_zero]; exact hl⟩
set_option maxHeartbeats 4000000 in
set_option maxRecDepth 100000 in
/-- pagesNotIn(old, content) -/
theorem c_PD_pagesNotIn (l : Launch) (dC : Nat → ClassId) (dI : Nat → Nat → Nat) (cI cB cE cL cZ : ClassId) (n : Nat) (ad : Nat → Nat) (S : pdS) (co cn : Nat) (hn : n ≤ 1024) (hv : pd_v n S) (hco : co < 32) (hcn : cn < 32) (sz : Nat) : CMi l (dC, dI) (pw_ty cI cB cE cL cZ) y_PD_pagesNotIn w_PD_pagesNotIn ({ frames := 1, cells := 0, slots := 0, locals := 20 }) [.ref (ad (23 + co)), .ref (ad (23 + cn))] (pw n ad cI cB cE S) (fun _ : Unit => pw n ad cI cB cE S) sz (fun r _ => r = nI (pd_sm (fun k => if k < pd_pf (S 4 co) ∧ S (8 + co) k = S (8 + cn) k then 0 else 1) (pd_pf (S 4 cn)))) := by
  refine Met.ofW (cc := b_PD_pagesNotIn) (maxL := 5) (ret := (some .int)) (by decide) rfl ?_
  intro p e s m args below meth c s₁ B hml hv
  obtain ⟨rfl, hsz, hP, hK, hD0⟩ := hv
  have hx := B.exec
  have hb := B.bytes
  have hret := B.returns
  have hts := atoms_spec (ws := w_PD_pagesNotIn) B.pre
  have hg : ∀ w ∈ wsG, w.before _ s = true := fun w h => hts w (List.mem_cons_of_mem _ h)
  have hown : s.vm.findClass "PageDrive" = some m.cls := findClass_of_methodNamed B.named
  have hlocks := B.notSynchronized
  subst hsz
  have hD := hD0.self (sz := s.heap.size)
  generalize hAe : va_A (pw n ad cI cB cE S) s.heap.size = A at hD ⊢
  have hA : ∀ q : Nat, s.heap.size ≤ q → A q := fun q h => by rw [← hAe]; exact Or.inr h
  have hS : va_S A s.heap s.heap [] := va_S.rf
  have hl := lv_entry ([.ref (ad (23 + co)), .ref (ad (23 + cn))]) (n := 5) (Nat.le_of_ble_eq_true rfl)
  rw [lg_entry_eq]
  generalize (lg_sl ([.ref (ad (23 + co)), .ref (ad (23 + cn))]) ++ List.replicate (5 - (lg_sl ([.ref (ad (23 + co)), .ref (ad (23 + cn))])).length) Slot.unset).toArray = ls at hl ⊢
  have hl : lv_has ls 5 [(0, .ref (ad (23 + co))), (1, .ref (ad (23 + cn)))] := hl
  have hs4 := (hv.1 co hco).1
  have hs4n := (hv.1 cn hcn).1
  have h400 : pd_pf (S 4 cn) ≤ 400 := by unfold pd_pf; omega
  have h400o : pd_pf (S 4 co) ≤ 400 := by unfold pd_pf; omega
  refine lv_aload_n hx hb d_PD_pagesNotIn_0 rfl (lv_at hl 0 rfl) ?_
  refine va_get (C := "PageDrive$Content") (T := F_CO) (N := 3) hx hb hg iw_CO hown hK hP (23 + co) (pw_gC (i := co) (by omega)) rfl 1 (by decide) (hg (Cond.fieldLink "PageDrive" 67 "PageDrive$Content" "size" "I") (wG_m2 (List.mem_of_getElem? (i := 34) rfl))) (fun _ h9 => h9) rfl d_PD_pagesNotIn_1 ?_
  refine pw_callip (va_runS (As := [.int (nI (S 4 co))]) (rest := []) ⟨hx, hb, hml, hown, hg⟩ (c_PD_pagesFor l dC dI cI cB cE cL cZ (pw n ad cI cB cE S) (S 4 co) (by omega) s.heap.size) (cwS 1 hg (gi_S (fun _ h => h) (wG_m4 (List.mem_of_getElem? (i := 6) rfl)) (wG_m4 (List.mem_of_getElem? (i := 7) rfl)) (wG_m1 (List.mem_of_getElem? (i := 1) rfl)) (wG_m4 (List.mem_of_getElem? (i := 8) rfl))) rfl rfl rfl (by decide +kernel) ⟨Nat.le_of_ble_eq_true rfl, Nat.le_of_ble_eq_true rfl⟩) (pw_ps hK hP hD [.int (nI (S 4 co))]) rfl rfl hl.1 rfl (lv_room (Nat.le_of_ble_eq_true rfl)) d_PD_pagesNotIn_4 ⟨Nat.le_of_ble_eq_true rfl, Nat.le_of_ble_eq_true rfl⟩) hD hS hA (fun r1 H locs hr hP hD hS => ?_)
  subst hr
  refine lv_istore_n (lv' := [(2, .int (nI (pd_pf (S 4 co)))), (0, .ref (ad (23 + co))), (1, .ref (ad (23 + cn)))]) hx hb d_PD_pagesNotIn_7 rfl hl (by decide) rfl (fun ls hl => ?_)
  refine lv_iconst (v := nI 0) hx hb d_PD_pagesNotIn_8 (by decide) ?_
  refine lv_istore_n (lv' := [(3, .int (nI 0)), (2, .int (nI (pd_pf (S 4 co)))), (0, .ref (ad (23 + co))), (1, .ref (ad (23 + cn)))]) hx hb d_PD_pagesNotIn_9 rfl hl (by decide) rfl (fun ls hl => ?_)
  refine lv_iconst (v := nI 0) hx hb d_PD_pagesNotIn_10 (by decide) ?_
  refine lv_istore (lv' := [(4, .int (nI 0)), (3, .int (nI 0)), (2, .int (nI (pd_pf (S 4 co)))), (0, .ref (ad (23 + co))), (1, .ref (ad (23 + cn)))]) hx hb d_PD_pagesNotIn_11 hl (by decide) rfl (fun ls hl => ?_)
  refine pw_loop (fun mm H locs ls => ∃ k : Nat, mm = pd_pf (S 4 cn) - k ∧ k ≤ pd_pf (S 4 cn) ∧ va_P (dC, dI) pwCl (pw n ad cI cB cE S) H ∧ va_D A (pw n ad cI cB cE S) ∧ va_S A s.heap H locs ∧ lv_has ls 5 [(4, .int (nI k)), (3, .int (nI (pd_sm (fun k => if k < pd_pf (S 4 co) ∧ S (8 + co) k = S (8 + cn) k then 0 else 1) k))), (2, .int (nI (pd_pf (S 4 co)))), (0, .ref (ad (23 + co))), (1, .ref (ad (23 + cn)))]) ?_ _ _ _ _ ⟨0, rfl, by omega, hP, hD, hS, hl⟩
  rintro mm H locs ls ⟨k, hmm, hk, hP, hD, hS, hl⟩ ih
  refine lv_iload hx hb d_PD_pagesNotIn_13 (lv_at hl 0 rfl) ?_
  refine lv_aload_n hx hb d_PD_pagesNotIn_15 rfl (lv_at hl 4 rfl) ?_
  refine va_get (C := "PageDrive$Content") (T := F_CO) (N := 3) hx hb hg iw_CO hown hK hP (23 + cn) (pw_gC (i := cn) (by omega)) rfl 1 (by decide) (hg (Cond.fieldLink "PageDrive" 67 "PageDrive$Content" "size" "I") (wG_m2 (List.mem_of_getElem? (i := 34) rfl))) (fun _ h9 => h9) rfl d_PD_pagesNotIn_16 ?_
  refine pw_callip (va_runS (As := [.int (nI (S 4 cn))]) (rest := [.int (nI k)]) ⟨hx, hb, hml, hown, hg⟩ (c_PD_pagesFor l dC dI cI cB cE cL cZ (pw n ad cI cB cE S) (S 4 cn) (by omega) H.size) (cwS 1 hg (gi_S (fun _ h => h) (wG_m4 (List.mem_of_getElem? (i := 6) rfl)) (wG_m4 (List.mem_of_getElem? (i := 7) rfl)) (wG_m1 (List.mem_of_getElem? (i := 1) rfl)) (wG_m4 (List.mem_of_getElem? (i := 8) rfl))) rfl rfl rfl (by decide +kernel) ⟨Nat.le_of_ble_eq_true rfl, Nat.le_of_ble_eq_true rfl⟩) (pw_ps hK hP hD [.int (nI (S 4 cn))]) rfl rfl hl.1 rfl (lv_room (Nat.le_of_ble_eq_true rfl)) d_PD_pagesNotIn_19 ⟨Nat.le_of_ble_eq_true rfl, Nat.le_of_ble_eq_true rfl⟩) hD hS hA (fun r2 H locs hr hP hD hS => ?_)
  subst hr
  refine pq_icmp_ge (tgt := 57) hx hb (by omega) (by omega) d_PD_pagesNotIn_22 (by decide) (fun h1 => ?_) (fun h1 => ?_)
  · have hk16 : k = pd_pf (S 4 cn) := by omega
    subst hk16
    refine lv_iload_n hx hb d_PD_pagesNotIn_57 rfl (lv_at hl 1 rfl) ?_
    exact W.iret (v := (nI (pd_sm (fun k => if k < pd_pf (S 4 co) ∧ S (8 + co) k = S (8 + cn) k then 0 else 1) (pd_pf (S 4 cn))))) hx hb hret (fun t9 ht9 hW9 => ⟨⟨_, (), rfl, rfl, by rw [ht9]; exact hP, va_K.moved hW9.alike hK, hD⟩, hS.F ht9⟩) hS.2.2 d_PD_pagesNotIn_58
  · refine lv_iload hx hb d_PD_pagesNotIn_25 (lv_at hl 0 rfl) ?_
    refine lv_iload_n hx hb d_PD_pagesNotIn_27 rfl (lv_at hl 2 rfl) ?_
    refine pq_icmp_ge (tgt := 48) hx hb (by omega) (by omega) d_PD_pagesNotIn_28 (by decide) (fun h2 => ?_) (fun h2 => ?_)
    · refine lv_iinc (v := (nI ((pd_sm (fun k => if k < pd_pf (S 4 co) ∧ S (8 + co) k = S (8 + cn) k then 0 else 1) k) + 1))) (lv' := [(3, .int (nI ((pd_sm (fun k => if k < pd_pf (S 4 co) ∧ S (8 + co) k = S (8 + cn) k then 0 else 1) k) + 1))), (4, .int (nI k)), (2, .int (nI (pd_pf (S 4 co)))), (0, .ref (ad (23 + co))), (1, .ref (ad (23 + cn)))]) hx hb d_PD_pagesNotIn_48 hl (k := 1) rfl (pq_inc _) (by decide) rfl (fun ls hl => ?_)
      refine lv_iinc (v := (nI (k + 1))) (lv' := [(4, .int (nI (k + 1))), (3, .int (nI ((pd_sm (fun k => if k < pd_pf (S 4 co) ∧ S (8 + co) k = S (8 + cn) k then 0 else 1) k) + 1))), (2, .int (nI (pd_pf (S 4 co)))), (0, .ref (ad (23 + co))), (1, .ref (ad (23 + cn)))]) hx hb d_PD_pagesNotIn_51 hl (k := 1) rfl (pq_inc _) (by decide) rfl (fun ls hl => ?_)
      refine lv_goto (tgt := 13) hx hb d_PD_pagesNotIn_54 (by decide) ?_
      exact ih _ _ _ _ (by omega) ⟨k + 1, rfl, by omega, hP, hD, hS, by simp only [pd_sm]; rw [if_neg (by omega)]; exact lv_sub hl [0, 1, 2, 3, 4] rfl⟩
    · have hp1 := hv.2.1 co k hco h2
      have hp2 := hv.2.1 cn k hcn h1
      refine lv_aload_n hx hb d_PD_pagesNotIn_31 rfl (lv_at hl 4 rfl) ?_
      refine va_get (C := "PageDrive$Content") (T := F_CO) (N := 3) hx hb hg iw_CO hown hK hP (23 + cn) (pw_gC (i := cn) (by omega)) rfl 0 (by decide) (hg (Cond.fieldLink "PageDrive" 171 "PageDrive$Content" "row" "[I") (wG_m2 (List.mem_of_getElem? (i := 32) rfl))) (fun _ h9 => h9) rfl d_PD_pagesNotIn_32 ?_
      refine lv_iload hx hb d_PD_pagesNotIn_35 (lv_at hl 0 rfl) ?_
      refine pq_iald hx hb hK hP (55 + cn) 0 (pw_gR (i := cn) (by omega)) rfl (by omega) (by omega) d_PD_pagesNotIn_37 ?_
      refine lv_aload_n hx hb d_PD_pagesNotIn_38 rfl (lv_at hl 3 rfl) ?_
      refine va_get (C := "PageDrive$Content") (T := F_CO) (N := 3) hx hb hg iw_CO hown hK hP (23 + co) (pw_gC (i := co) (by omega)) rfl 0 (by decide) (hg (Cond.fieldLink "PageDrive" 171 "PageDrive$Content" "row" "[I") (wG_m2 (List.mem_of_getElem? (i := 32) rfl))) (fun _ h9 => h9) rfl d_PD_pagesNotIn_39 ?_
      refine lv_iload hx hb d_PD_pagesNotIn_42 (lv_at hl 0 rfl) ?_
      refine pq_iald hx hb hK hP (55 + co) 0 (pw_gR (i := co) (by omega)) rfl (by omega) (by omega) d_PD_pagesNotIn_44 ?_
      refine pq_icmp_eq (tgt := 51) hx hb (by omega) (by omega) d_PD_pagesNotIn_45 (by decide) (fun h3 => ?_) (fun h3 => ?_)
      · refine lv_iinc (v := (nI (k + 1))) (lv' := [(4, .int (nI (k + 1))), (3, .int (nI (pd_sm (fun k => if k < pd_pf (S 4 co) ∧ S (8 + co) k = S (8 + cn) k then 0 else 1) k))), (2, .int (nI (pd_pf (S 4 co)))), (0, .ref (ad (23 + co))), (1, .ref (ad (23 + cn)))]) hx hb d_PD_pagesNotIn_51 hl (k := 0) rfl (pq_inc _) (by decide) rfl (fun ls hl => ?_)
        refine lv_goto (tgt := 13) hx hb d_PD_pagesNotIn_54 (by decide) ?_
        exact ih _ _ _ _ (by omega) ⟨k + 1, rfl, by omega, hP, hD, hS, by simp only [pd_sm]; rw [if_pos ⟨h2, h3.symm⟩, Nat.add_zero]; exact hl⟩
      · refine lv_iinc (v := (nI ((pd_sm (fun k => if k < pd_pf (S 4 co) ∧ S (8 + co) k = S (8 + cn) k then 0 else 1) k) + 1))) (lv' := [(3, .int (nI ((pd_sm (fun k => if k < pd_pf (S 4 co) ∧ S (8 + co) k = S (8 + cn) k then 0 else 1) k) + 1))), (4, .int (nI k)), (2, .int (nI (pd_pf (S 4 co)))), (0, .ref (ad (23 + co))), (1, .ref (ad (23 + cn)))]) hx hb d_PD_pagesNotIn_48 hl (k := 1) rfl (pq_inc _) (by decide) rfl (fun ls hl => ?_)
        refine lv_iinc (v := (nI (k + 1))) (lv' := [(4, .int (nI (k + 1))), (3, .int (nI ((pd_sm (fun k => if k < pd_pf (S 4 co) ∧ S (8 + co) k = S (8 + cn) k then 0 else 1) k) + 1))), (2, .int (nI (pd_pf (S 4 co)))), (0, .ref (ad (23 + co))), (1, .ref (ad (23 + cn)))]) hx hb d_PD_pagesNotIn_51 hl (k := 1) rfl (pq_inc _) (by decide) rfl (fun ls hl => ?_)
        refine lv_goto (tgt := 13) hx hb d_PD_pagesNotIn_54 (by decide) ?_
        exact ih _ _ _ _ (by omega) ⟨k + 1, rfl, by omega, hP, hD, hS, by simp only [pd_sm]; rw [if_neg (fun q => h3 q.2.symm)]; exact lv_sub hl [0, 1, 2, 3, 4] rfl⟩
end
section
/-! THE CLASS, 4: keepOf, become, settle, fall -/
set_option maxHeartbeats 4000000 in
set_option maxRecDepth 100000 in
/-- keepOf(drawn, entry) -/
theorem c_PD_keepOf (l : Launch) (dC : Nat → ClassId) (dI : Nat → Nat → Nat) (cI cB cE cL cZ : ClassId) (n : Nat) (ad : Nat → Nat) (S : pdS) (x : Int64) (i : Nat) (hi : i < 16) (hlo : S 6 i ≤ S 4 (2 * i)) (hs4 : S 4 (2 * i) ≤ 25600) (sz : Nat) : CMi l (dC, dI) (pw_ty cI cB cE cL cZ) y_PD_keepOf w_PD_keepOf ({ frames := 1, cells := 0, slots := 0, locals := 21 }) [.long x, .ref (ad (7 + i))] (pw n ad cI cB cE S) (fun _ : Unit => pw n ad cI cB cE S) sz (fun r _ => r = nI (pd_kp x (S 4 (2 * i)) (S 6 i))) := by
  refine Met.ofW (cc := b_PD_keepOf) (maxL := 5) (ret := (some .int)) (by decide) rfl ?_
  intro p e s m args below meth c s₁ B hml hv
  obtain ⟨rfl, hsz, hP, hK, hD0⟩ := hv
  have hx := B.exec
  have hb := B.bytes
  have hret := B.returns
  have hts := atoms_spec (ws := w_PD_keepOf) B.pre
  have hg : ∀ w ∈ wsG, w.before _ s = true := fun w h => hts w (List.mem_cons_of_mem _ h)
  have hown : s.vm.findClass "PageDrive" = some m.cls := findClass_of_methodNamed B.named
  have hlocks := B.notSynchronized
  subst hsz
  have hD := hD0.self (sz := s.heap.size)
  generalize hAe : va_A (pw n ad cI cB cE S) s.heap.size = A at hD ⊢
  have hA : ∀ q : Nat, s.heap.size ≤ q → A q := fun q h => by rw [← hAe]; exact Or.inr h
  have hS : va_S A s.heap s.heap [] := va_S.rf
  have hl := lv_entry ([.long x, .ref (ad (7 + i))]) (n := 5) (Nat.le_of_ble_eq_true rfl)
  rw [lg_entry_eq]
  generalize (lg_sl ([.long x, .ref (ad (7 + i))]) ++ List.replicate (5 - (lg_sl ([.long x, .ref (ad (7 + i))])).length) Slot.unset).toArray = ls at hl ⊢
  have hl : lv_has ls 5 [(0, .long x), (2, .ref (ad (7 + i)))] := hl
  refine lv_lload_n hx hb d_PD_keepOf_0 rfl (lv_at hl 0 rfl) ?_
  refine lv_bipush (v := nI 61) hx hb d_PD_keepOf_1 (by decide) ?_
  refine lv_lushr hx hb d_PD_keepOf_3 rfl ?_
  refine pq_topl (y := lN (x.toBitVec.toNat / 2 ^ 61)) (pd_ushr x (by decide)) ?_
  refine lv_lconst (v := 0) hx hb d_PD_keepOf_4 (by decide) ?_
  refine W.lcmp hx hb d_PD_keepOf_5 ?_
  refine lv_if_ne (tgt := 11) hx hb d_PD_keepOf_6 (by decide) (fun h1 => ?_) (fun h1 => ?_)
  · refine lv_lload_n hx hb d_PD_keepOf_11 rfl (lv_at hl 0 rfl) ?_
    refine lv_bipush (v := nI 33) hx hb d_PD_keepOf_12 (by decide) ?_
    refine lv_lushr hx hb d_PD_keepOf_14 rfl ?_
    refine pq_topl (y := lN (x.toBitVec.toNat / 2 ^ 33)) (pd_ushr x (by decide)) ?_
    refine lv_ldc2 hx hb hown (hg (Cond.constantLong "PageDrive" 196 (1048575)) (wG_m3 (List.mem_of_getElem? (i := 39) rfl))) d_PD_keepOf_15 ?_
    refine lv_land hx hb d_PD_keepOf_18 ?_
    refine lv_l2i hx hb d_PD_keepOf_19 rfl ?_
    refine pq_top (y := nI (x.toBitVec.toNat / 2 ^ 33 % 2 ^ 20)) (pd_lo20 (pd_d33 x)) ?_
    refine lv_istore_n (lv' := [(3, .int (nI (x.toBitVec.toNat / 2 ^ 33 % 2 ^ 20))), (0, .long x), (2, .ref (ad (7 + i)))]) hx hb d_PD_keepOf_20 rfl hl (by decide) rfl (fun ls hl => ?_)
    refine lv_iconst (v := nI 1) hx hb d_PD_keepOf_21 (by decide) ?_
    refine lv_iconst (v := nI 2) hx hb d_PD_keepOf_22 (by decide) ?_
    refine lv_aload_n hx hb d_PD_keepOf_23 rfl (lv_at hl 2 rfl) ?_
    refine va_get (C := "PageDrive$Entry") (T := F_EN) (N := 3) hx hb hg iw_EN hown hK hP (7 + i) (pw_gE (i := i) (by omega)) rfl 0 (by decide) (hg (Cond.fieldLink "PageDrive" 63 "PageDrive$Entry" "now" "LPageDrive$Content;") (wG_m3 (List.mem_of_getElem? (i := 5) rfl))) (fun _ h9 => h9) rfl d_PD_keepOf_24 ?_
    refine va_get (C := "PageDrive$Content") (T := F_CO) (N := 3) hx hb hg iw_CO hown hK hP (23 + (2 * i)) (pw_gC (i := 2 * i) (by omega)) rfl 1 (by decide) (hg (Cond.fieldLink "PageDrive" 67 "PageDrive$Content" "size" "I") (wG_m2 (List.mem_of_getElem? (i := 34) rfl))) (fun _ h9 => h9) rfl d_PD_keepOf_27 ?_
    refine lv_aload_n hx hb d_PD_keepOf_30 rfl (lv_at hl 2 rfl) ?_
    refine va_get (C := "PageDrive$Entry") (T := F_EN) (N := 3) hx hb hg iw_EN hown hK hP (7 + i) (pw_gE (i := i) (by omega)) rfl 2 (by decide) (hg (Cond.fieldLink "PageDrive" 105 "PageDrive$Entry" "low" "I") (wG_m3 (List.mem_of_getElem? (i := 9) rfl))) (fun _ h9 => h9) rfl d_PD_keepOf_31 ?_
    refine pq_isub hx hb (by omega) d_PD_keepOf_34 ?_
    refine pq_imul hx hb d_PD_keepOf_35 ?_
    refine lv_iconst (v := nI 1) hx hb d_PD_keepOf_36 (by decide) ?_
    refine pq_iadd hx hb d_PD_keepOf_37 ?_
    refine va_mmax hx hb (hml.trans hl.1.symm) hown (hg _ (wG_m1 (List.mem_of_getElem? (i := 29) rfl))) (hg _ (wG_m1 (List.mem_of_getElem? (i := 30) rfl))) (hg (Cond.initialized "java/lang/Math") (wG_m1 (List.mem_of_getElem? (i := 3) rfl))) (hg _ (wG_m1 (List.mem_of_getElem? (i := 31) rfl))) (Nat.le_of_ble_eq_true rfl) (Nat.le_of_ble_eq_true rfl) (Nat.zero_le _) (Nat.zero_le _) d_PD_keepOf_38 ?_
    refine pq_top (y := nI (2 * (S 4 (2 * i) - S 6 i) + 1)) (pd_max1 (by omega) (by omega)) ?_
    refine lv_istore (lv' := [(4, .int (nI (2 * (S 4 (2 * i) - S 6 i) + 1))), (3, .int (nI (x.toBitVec.toNat / 2 ^ 33 % 2 ^ 20))), (0, .long x), (2, .ref (ad (7 + i)))]) hx hb d_PD_keepOf_41 hl (by decide) rfl (fun ls hl => ?_)
    refine lv_iconst (v := nI 1) hx hb d_PD_keepOf_43 (by decide) ?_
    refine lv_iload_n hx hb d_PD_keepOf_44 rfl (lv_at hl 1 rfl) ?_
    refine lv_iload hx hb d_PD_keepOf_45 (lv_at hl 0 rfl) ?_
    refine pq_irem hx hb (by omega) (by omega) (by omega) d_PD_keepOf_47 ?_
    refine pq_iadd hx hb d_PD_keepOf_48 ?_
    exact W.iret (v := (nI (1 + ((x.toBitVec.toNat / 2 ^ 33 % 2 ^ 20) % (2 * (S 4 (2 * i) - S 6 i) + 1))))) hx hb hret (fun t9 ht9 hW9 => ⟨⟨_, (), rfl, by unfold pd_kp; rw [if_neg (fun q => h1 ((pd_lg0 _ (pd_d61 x)).mpr q))], by rw [ht9]; exact hP, va_K.moved hW9.alike hK, hD⟩, hS.F ht9⟩) hS.2.2 d_PD_keepOf_49
  · refine lv_iconst (v := nI 0) hx hb d_PD_keepOf_9 (by decide) ?_
    exact W.iret (v := (nI 0)) hx hb hret (fun t9 ht9 hW9 => ⟨⟨_, (), rfl, by unfold pd_kp; rw [if_pos ((pd_lg0 _ (pd_d61 x)).mp h1)], by rw [ht9]; exact hP, va_K.moved hW9.alike hK, hD⟩, hS.F ht9⟩) hS.2.2 d_PD_keepOf_10
set_option maxHeartbeats 4000000 in
set_option maxRecDepth 100000 in
/-- become(to, fr) -/
theorem c_PD_become (l : Launch) (dC : Nat → ClassId) (dI : Nat → Nat → Nat) (cI cB cE cL cZ : ClassId) (n : Nat) (ad : Nat → Nat) (S : pdS) (to fr : Nat) (hn : n ≤ 1024) (hv : pd_v n S) (ho : pd_ok n S (pd_ct S)) (ht : to < 32) (hf : fr < 32) (sz : Nat) : CMv l (dC, dI) (pw_ty cI cB cE cL cZ) y_PD_become w_PD_become ({ frames := 2, cells := 0, slots := 0, locals := 60 }) [.ref (ad 0), .ref (ad (23 + to)), .ref (ad (23 + fr))] (pw n ad cI cB cE S) (pw n ad cI cB cE) sz (fun S2 => pd_be S S2 to fr ∧ pd_ok n S2 (pd_ct S2)) := by
  refine Met.ofW (cc := b_PD_become) (maxL := 5) (ret := none) (by decide) rfl ?_
  intro p e s m args below meth c s₁ B hml hv
  obtain ⟨rfl, hsz, hP, hK, hD0⟩ := hv
  have hx := B.exec
  have hb := B.bytes
  have hret := B.returns
  have hts := atoms_spec (ws := w_PD_become) B.pre
  have hg : ∀ w ∈ wsG, w.before _ s = true := fun w h => hts w (List.mem_cons_of_mem _ h)
  have hown : s.vm.findClass "PageDrive" = some m.cls := findClass_of_methodNamed B.named
  have hlocks := B.notSynchronized
  subst hsz
  have hD := hD0.self (sz := s.heap.size)
  generalize hAe : va_A (pw n ad cI cB cE S) s.heap.size = A at hD ⊢
  have hA : ∀ q : Nat, s.heap.size ≤ q → A q := fun q h => by rw [← hAe]; exact Or.inr h
  have hS : va_S A s.heap s.heap [] := va_S.rf
  have hl := lv_entry ([.ref (ad 0), .ref (ad (23 + to)), .ref (ad (23 + fr))]) (n := 5) (Nat.le_of_ble_eq_true rfl)
  rw [lg_entry_eq]
  generalize (lg_sl ([.ref (ad 0), .ref (ad (23 + to)), .ref (ad (23 + fr))]) ++ List.replicate (5 - (lg_sl ([.ref (ad 0), .ref (ad (23 + to)), .ref (ad (23 + fr))])).length) Slot.unset).toArray = ls at hl ⊢
  have hl : lv_has ls 5 [(0, .ref (ad 0)), (1, .ref (ad (23 + to))), (2, .ref (ad (23 + fr)))] := hl
  have hs4 := (hv.1 fr hf).1
  have hs4t := (hv.1 to ht).1
  have hs5 := (hv.1 fr hf).2.1
  have h400 : pd_pf (S 4 fr) ≤ 400 := by unfold pd_pf; omega
  refine lv_aload_n hx hb d_PD_become_0 rfl (lv_at hl 1 rfl) ?_
  refine lv_aload_n hx hb d_PD_become_1 rfl (lv_at hl 2 rfl) ?_
  refine lv_acmp_ne (rx := some (ad (23 + to))) (ry := some (ad (23 + fr))) (tgt := 6) hx hb d_PD_become_2 (by decide) (fun h1 => ?_) (fun h1 => ?_)
  · have hne : to ≠ fr := fun q => h1 (by rw [q])
    refine lv_aload_n hx hb d_PD_become_6 rfl (lv_at hl 2 rfl) ?_
    refine va_get (C := "PageDrive$Content") (T := F_CO) (N := 3) hx hb hg iw_CO hown hK hP (23 + fr) (pw_gC (i := fr) (by omega)) rfl 1 (by decide) (hg (Cond.fieldLink "PageDrive" 67 "PageDrive$Content" "size" "I") (wG_m2 (List.mem_of_getElem? (i := 34) rfl))) (fun _ h9 => h9) rfl d_PD_become_7 ?_
    refine pw_callip (va_runS (As := [.int (nI (S 4 fr))]) (rest := []) ⟨hx, hb, hml, hown, hg⟩ (c_PD_pagesFor l dC dI cI cB cE cL cZ (pw n ad cI cB cE S) (S 4 fr) (by omega) s.heap.size) (cwS 1 hg (gi_S (fun _ h => h) (wG_m4 (List.mem_of_getElem? (i := 6) rfl)) (wG_m4 (List.mem_of_getElem? (i := 7) rfl)) (wG_m1 (List.mem_of_getElem? (i := 1) rfl)) (wG_m4 (List.mem_of_getElem? (i := 8) rfl))) rfl rfl rfl (by decide +kernel) ⟨Nat.le_of_ble_eq_true rfl, Nat.le_of_ble_eq_true rfl⟩) (pw_ps hK hP hD [.int (nI (S 4 fr))]) rfl rfl hl.1 rfl (lv_room (Nat.le_of_ble_eq_true rfl)) d_PD_become_10 ⟨Nat.le_of_ble_eq_true rfl, Nat.le_of_ble_eq_true rfl⟩) hD hS hA (fun r1 H locs hr hP hD hS => ?_)
    subst hr
    refine lv_istore_n (lv' := [(3, .int (nI (pd_pf (S 4 fr)))), (0, .ref (ad 0)), (1, .ref (ad (23 + to))), (2, .ref (ad (23 + fr)))]) hx hb d_PD_become_13 rfl hl (by decide) rfl (fun ls hl => ?_)
    refine lv_iconst (v := nI 0) hx hb d_PD_become_14 (by decide) ?_
    refine lv_istore (lv' := [(4, .int (nI 0)), (3, .int (nI (pd_pf (S 4 fr)))), (0, .ref (ad 0)), (1, .ref (ad (23 + to))), (2, .ref (ad (23 + fr)))]) hx hb d_PD_become_15 hl (by decide) rfl (fun ls hl => ?_)
    refine pw_loop (fun mm H locs ls => ∃ (T : pdS) (k : Nat), mm = pd_pf (S 4 fr) - k ∧ k ≤ pd_pf (S 4 fr) ∧ pd_fr S T ∧ pd_ok n T (fun q => pd_ct S q + pd_rc (S (8 + fr)) q k) ∧ va_P (dC, dI) pwCl (pw n ad cI cB cE T) H ∧ va_D A (pw n ad cI cB cE T) ∧ va_S A s.heap H locs ∧ lv_has ls 5 [(4, .int (nI k)), (3, .int (nI (pd_pf (S 4 fr)))), (0, .ref (ad 0)), (1, .ref (ad (23 + to))), (2, .ref (ad (23 + fr)))]) ?_ _ _ _ _ ⟨S, 0, rfl, by omega, pd_fr_rf S, ho, hP, hD, hS, hl⟩
    rintro mm H locs ls ⟨T, k, hmm, hk, hfr, hok, hP, hD, hS, hl⟩ ih
    have hT4 : T 4 = S 4 := hfr.1 4 (by decide) (by decide) (by decide)
    have hTr : ∀ d, T (8 + d) = S (8 + d) := fun d => hfr.1 (8 + d) (by omega) (by omega) (by omega)
    refine lv_iload hx hb d_PD_become_17 (lv_at hl 0 rfl) ?_
    refine lv_iload_n hx hb d_PD_become_19 rfl (lv_at hl 1 rfl) ?_
    refine pq_icmp_ge (tgt := 43) hx hb (by omega) (by omega) d_PD_become_20 (by decide) (fun h2 => ?_) (fun h2 => ?_)
    · have hkk : k = pd_pf (S 4 fr) := by omega
      subst hkk
      have hpre := pd_be_pre (to := to) ht hok hfr
      have hT4t : T 4 to = S 4 to := by rw [hT4]
      refine lv_aload_n hx hb d_PD_become_43 rfl (lv_at hl 2 rfl) ?_
      refine lv_aload_n hx hb d_PD_become_44 rfl (lv_at hl 3 rfl) ?_
      refine lv_iconst (v := nI 0) hx hb d_PD_become_45 (by decide) ?_
      refine pw_callv (va_runV (As := [.ref (ad (23 + to)), .int (nI 0)]) (rest := []) ⟨hx, hb, hml, hown, hg⟩ (c_PD_shorten l dC dI cI cB cE cL cZ n ad T to 0 (fun q => pd_ct S q + pd_rc (S (8 + fr)) q (pd_pf (S 4 fr)) - pd_rc (S (8 + to)) q (pd_pf (S 4 to))) hn ht (Nat.zero_le _) (by omega) (fun k hk => by rw [hTr]; exact hv.2.1 to k ht (by rw [hT4t] at hk; exact hk)) (fun q => by have h7 := pd_ct_bd hv q; have h8 := pd_rc_le (S (8 + fr)) q (pd_pf (S 4 fr)); show _ - _ < _; omega) hpre H.size) (cwV 2 hg (gi_V (fun _ h => h) (wG_m4 (List.mem_of_getElem? (i := 13) rfl)) (wG_m4 (List.mem_of_getElem? (i := 14) rfl)) (wG_m14 (List.mem_of_getElem? (i := 2) rfl)) (wG_m1 (List.mem_of_getElem? (i := 1) rfl)) (wG_m4 (List.mem_of_getElem? (i := 15) rfl))) rfl rfl rfl (by decide +kernel) ⟨Nat.le_of_ble_eq_true rfl, Nat.le_of_ble_eq_true rfl⟩) (pw_pv hK hP hD (va_recv hK hP (ci := 0) (q0 := 0) rfl pw_g0) [.ref (ad (23 + to)), .int (nI 0)]) rfl rfl hl.1 rfl (lv_room (Nat.le_of_ble_eq_true rfl)) d_PD_become_46 ⟨Nat.le_of_ble_eq_true rfl, Nat.le_of_ble_eq_true rfl⟩) hD hS hA (fun U H locs hr hP hD hS => ?_)
      obtain ⟨U0, hu1, hu2, hu3⟩ := hr
      have hsh := pd_sh_of hu1 hu3
      have hU4f : U 4 fr = S 4 fr := by rw [hsh.2.2.1, va_up_ne _ _ (fun q => hne q.symm), hT4]
      have hU5f : U 5 fr = S 5 fr := by rw [hsh.2.2.2.1, hfr.1 5 (by decide) (by decide) (by decide)]
      refine lv_aload_n hx hb d_PD_become_49 rfl (lv_at hl 4 rfl) ?_
      refine va_get (C := "PageDrive$Content") (T := F_CO) (N := 3) hx hb hg iw_CO hown hK hP (23 + fr) (pw_gC (i := fr) (by omega)) rfl 0 (by decide) (hg (Cond.fieldLink "PageDrive" 171 "PageDrive$Content" "row" "[I") (wG_m2 (List.mem_of_getElem? (i := 32) rfl))) (fun _ h9 => h9) rfl d_PD_become_50 ?_
      refine lv_iconst (v := nI 0) hx hb d_PD_become_53 (by decide) ?_
      refine lv_aload_n hx hb d_PD_become_54 rfl (lv_at hl 3 rfl) ?_
      refine va_get (C := "PageDrive$Content") (T := F_CO) (N := 3) hx hb hg iw_CO hown hK hP (23 + to) (pw_gC (i := to) (by omega)) rfl 0 (by decide) (hg (Cond.fieldLink "PageDrive" 171 "PageDrive$Content" "row" "[I") (wG_m2 (List.mem_of_getElem? (i := 32) rfl))) (fun _ h9 => h9) rfl d_PD_become_55 ?_
      refine lv_iconst (v := nI 0) hx hb d_PD_become_58 (by decide) ?_
      refine lv_iload_n hx hb d_PD_become_59 rfl (lv_at hl 1 rfl) ?_
      refine pr_cpR hx hb (hml.trans hl.1.symm) hown (hg (Cond.methodLink "PageDrive" 190 ⟨"java/lang/System", "arraycopy", "(Ljava/lang/Object;ILjava/lang/Object;II)V"⟩) (wG_m4 (List.mem_of_getElem? (i := 20) rfl))) (hg (Cond.native ⟨"java/lang/System", "arraycopy", "(Ljava/lang/Object;ILjava/lang/Object;II)V"⟩) (wG_m4 (List.mem_of_getElem? (i := 22) rfl))) (hg (Cond.static ⟨"java/lang/System", "arraycopy", "(Ljava/lang/Object;ILjava/lang/Object;II)V"⟩) (wG_m4 (List.mem_of_getElem? (i := 21) rfl))) (hg (Cond.initialized "java/lang/System") (wG_m1 (List.mem_of_getElem? (i := 14) rfl))) hK hP hD hS (fr := fr) (to := to) hf ht (by omega) (by omega) rfl (Nat.le_of_ble_eq_true rfl) (Nat.le_of_ble_eq_true rfl) d_PD_become_60 (fun H locs hP hD hS => ?_)
      generalize eS2 : va_up U (8 + to) (va_cpy (U (8 + fr)) (U (8 + to)) 0 0 (pd_pf (S 4 fr))) = S2 at hP hD
      have eb1 : ∀ b, b ≠ 8 + to → S2 b = U b := fun b hb => by rw [← eS2, va_up_ne _ _ hb]
      refine lv_aload_n hx hb d_PD_become_63 rfl (lv_at hl 3 rfl) ?_
      refine lv_aload_n hx hb d_PD_become_64 rfl (lv_at hl 4 rfl) ?_
      refine va_get (C := "PageDrive$Content") (T := F_CO) (N := 3) hx hb hg iw_CO hown hK hP (23 + fr) (pw_gC (i := fr) (by omega)) rfl 1 (by decide) (hg (Cond.fieldLink "PageDrive" 67 "PageDrive$Content" "size" "I") (wG_m2 (List.mem_of_getElem? (i := 34) rfl))) (fun _ h9 => h9) rfl d_PD_become_65 ?_
      refine pr_size hx hb hg hown hK hP hD hS (i := to) (by omega) (hg (Cond.fieldLink "PageDrive" 67 "PageDrive$Content" "size" "I") (wG_m2 (List.mem_of_getElem? (i := 34) rfl))) d_PD_become_68 (fun H locs hP hD hS => ?_)
      generalize eS3 : pd_st S2 4 to (S2 4 fr) = S3 at hP hD
      have e25 : S3 5 fr = U 5 fr := by rw [← eS3, pd_bk _ (by decide), eb1 5 (by omega)]
      refine lv_aload_n hx hb d_PD_become_71 rfl (lv_at hl 3 rfl) ?_
      refine lv_aload_n hx hb d_PD_become_72 rfl (lv_at hl 4 rfl) ?_
      refine va_get (C := "PageDrive$Content") (T := F_CO) (N := 3) hx hb hg iw_CO hown hK hP (23 + fr) (pw_gC (i := fr) (by omega)) rfl 2 (by decide) (hg (Cond.fieldLink "PageDrive" 91 "PageDrive$Content" "there" "Z") (wG_m2 (List.mem_of_getElem? (i := 36) rfl))) (fun _ h9 => h9) rfl d_PD_become_73 ?_
      refine pr_there hx hb hg hown hK hP hD hS (i := to) (by omega) (by omega) (hg (Cond.fieldLink "PageDrive" 91 "PageDrive$Content" "there" "Z") (wG_m2 (List.mem_of_getElem? (i := 36) rfl))) d_PD_become_76 (fun H locs hP hD hS => ?_)
      generalize eS4 : pd_st S3 5 to (S3 5 fr) = S4 at hP hD
      have hbe : pd_be S S4 to fr := by
        refine pd_be_of ht hne hfr hsh ?_ ?_ ?_ ?_ ?_ ?_ ?_ ?_ hf
        · rw [← eS4, pd_bk _ (by decide), ← eS3, pd_bk _ (by decide), eb1 0 (by omega)]
        · rw [← eS4, pd_bk _ (by decide), ← eS3, pd_bk _ (by decide), eb1 3 (by omega)]
        · rw [← eS4, pd_bk _ (by decide), ← eS3, pd_own, eb1 4 (by omega)]
        · rw [← eS4, pd_own, ← eS3, pd_bk _ (by decide), eb1 5 (by omega)]
        · rw [← eS4, pd_bk _ (by decide), ← eS3, pd_bk _ (by decide), eb1 6 (by omega)]
        · rw [← eS4, pd_bk _ (by decide), ← eS3, pd_bk _ (by decide), eb1 7 (by omega)]
        · rw [← eS4, pd_bk _ (by omega), ← eS3, pd_bk _ (by omega), ← eS2, va_up_self]
        · intro d hd hdt
          rw [← eS4, pd_bk _ (by omega), ← eS3, pd_bk _ (by omega), eb1 (8 + d) (by omega)]
      have hU : pd_ok n U (fun q => pd_ct S q + pd_rc (S (8 + fr)) q (pd_pf (S 4 fr)) - pd_rc (S (8 + to)) q (pd_pf (S 4 to))) := by rw [hu3]; exact pd_ok_st hu2 (by decide) (by decide) (Or.inl (by decide))
      have h3 : pd_ok n S4 (fun q => pd_ct S q + pd_rc (S (8 + fr)) q (pd_pf (S 4 fr)) - pd_rc (S (8 + to)) q (pd_pf (S 4 to))) := by rw [← eS4, ← eS3]; exact pd_ok_st (pd_ok_st (pd_ok_eqv hU (eb1 1 (by omega)) (eb1 2 (by omega)) (by rw [eb1 7 (by omega)])) (by decide) (by decide) (Or.inl (by decide))) (by decide) (by decide) (Or.inl (by decide))
      exact W.vret hx hb hret (fun t9 ht9 hW9 => ⟨⟨_, rfl, ⟨hbe, pd_be_post ht hf hbe h3⟩, by rw [ht9]; exact hP, va_K.moved hW9.alike hK, hD⟩, hS.F ht9⟩) hS.2.2 d_PD_become_79
    · have hpg := hv.2.1 fr k hf h2
      have hcp := pd_ct_pos hf h2
      refine lv_aload_n hx hb d_PD_become_23 rfl (lv_at hl 2 rfl) ?_
      refine va_get (C := "PageDrive") (T := F_PD) (N := 4) hx hb hg iw_PD hown hK hP (0) pw_g0 rfl 0 (by decide) (hg (Cond.fieldLink "PageDrive" 23 "PageDrive" "pool" "LPageDrive$Pool;") (wG_m3 (List.mem_of_getElem? (i := 17) rfl))) (fun _ h9 => h9) rfl d_PD_become_24 ?_
      refine lv_aload_n hx hb d_PD_become_27 rfl (lv_at hl 4 rfl) ?_
      refine va_get (C := "PageDrive$Content") (T := F_CO) (N := 3) hx hb hg iw_CO hown hK hP (23 + fr) (pw_gC (i := fr) (by omega)) rfl 0 (by decide) (hg (Cond.fieldLink "PageDrive" 171 "PageDrive$Content" "row" "[I") (wG_m2 (List.mem_of_getElem? (i := 32) rfl))) (fun _ h9 => h9) rfl d_PD_become_28 ?_
      refine lv_iload hx hb d_PD_become_31 (lv_at hl 0 rfl) ?_
      refine pq_iald hx hb hK hP (55 + fr) 0 (pw_gR (i := fr) (by omega)) rfl (by omega) (by omega) d_PD_become_33 ?_
      refine pq_top (y := nI (S (8 + fr) k)) (by rw [hTr]) ?_
      refine pw_callv (va_runV (As := [.int (nI (S (8 + fr) k))]) (rest := []) ⟨hx, hb, hml, hown, hg⟩ (c_PO_join l dC dI cI cB cE cL cZ n ad T (S (8 + fr) k) hpg hn H.size) (cwV 1 hg (gi_V (fun _ h => h) (wG_m4 (List.mem_of_getElem? (i := 9) rfl)) (wG_m4 (List.mem_of_getElem? (i := 10) rfl)) (wG_m4 (List.mem_of_getElem? (i := 11) rfl)) (wG_m1 (List.mem_of_getElem? (i := 2) rfl)) (wG_m4 (List.mem_of_getElem? (i := 12) rfl))) rfl rfl rfl (by decide +kernel) ⟨Nat.le_of_ble_eq_true rfl, Nat.le_of_ble_eq_true rfl⟩) (pw_pv hK hP hD (va_recv hK hP (ci := 1) (q0 := 1) rfl pw_g1) [.int (nI (S (8 + fr) k))]) rfl rfl hl.1 rfl (lv_room (Nat.le_of_ble_eq_true rfl)) d_PD_become_34 ⟨Nat.le_of_ble_eq_true rfl, Nat.le_of_ble_eq_true rfl⟩) hD hS hA (fun T2 H locs hr hP hD hS => ?_)
      refine lv_iinc (v := (nI (k + 1))) (lv' := [(4, .int (nI (k + 1))), (3, .int (nI (pd_pf (S 4 fr)))), (0, .ref (ad 0)), (1, .ref (ad (23 + to))), (2, .ref (ad (23 + fr)))]) hx hb d_PD_become_37 hl (k := 0) rfl (pq_inc _) (by decide) rfl (fun ls hl => ?_)
      refine lv_goto (tgt := 17) hx hb d_PD_become_40 (by decide) ?_
      subst hr
      exact ih _ _ _ _ (by omega) ⟨_, k + 1, rfl, by omega, pd_fr_tr hfr (pd_fr_join T _), pd_join_step hpg hcp hok, hP, hD, hS, hl⟩
  · have hq : to = fr := by have h9 := hD.1 (23 + to) (23 + fr) _ _ (pw_gC ht) (pw_gC hf) (Option.some.inj h1); omega
    subst hq
    exact W.vret hx hb hret (fun t9 ht9 hW9 => ⟨⟨S, rfl, ⟨pd_be_self S to, ho⟩, by rw [ht9]; exact hP, va_K.moved hW9.alike hK, hD⟩, hS.F ht9⟩) hS.2.2 d_PD_become_5
set_option maxHeartbeats 4000000 in
set_option maxRecDepth 100000 in
/-- settle(entry) -/
theorem c_PD_settle (l : Launch) (dC : Nat → ClassId) (dI : Nat → Nat → Nat) (cI cB cE cL cZ : ClassId) (n : Nat) (ad : Nat → Nat) (S : pdS) (i : Nat) (hn : n ≤ 1024) (hv : pd_v n S) (ho : pd_ok n S (pd_ct S)) (hi : i < 16) (sz : Nat) : CMv l (dC, dI) (pw_ty cI cB cE cL cZ) y_PD_settle w_PD_settle ({ frames := 3, cells := 0, slots := 0, locals := 84 }) [.ref (ad 0), .ref (ad (7 + i))] (pw n ad cI cB cE S) (pw n ad cI cB cE) sz (fun S2 => pd_set S S2 i ∧ pd_ok n S2 (pd_ct S2)) := by
  refine Met.ofW (cc := b_PD_settle) (maxL := 2) (ret := none) (by decide) rfl ?_
  intro p e s m args below meth c s₁ B hml hv
  obtain ⟨rfl, hsz, hP, hK, hD0⟩ := hv
  have hx := B.exec
  have hb := B.bytes
  have hret := B.returns
  have hts := atoms_spec (ws := w_PD_settle) B.pre
  have hg : ∀ w ∈ wsG, w.before _ s = true := fun w h => hts w (List.mem_cons_of_mem _ h)
  have hown : s.vm.findClass "PageDrive" = some m.cls := findClass_of_methodNamed B.named
  have hlocks := B.notSynchronized
  subst hsz
  have hD := hD0.self (sz := s.heap.size)
  generalize hAe : va_A (pw n ad cI cB cE S) s.heap.size = A at hD ⊢
  have hA : ∀ q : Nat, s.heap.size ≤ q → A q := fun q h => by rw [← hAe]; exact Or.inr h
  have hS : va_S A s.heap s.heap [] := va_S.rf
  have hl := lv_entry ([.ref (ad 0), .ref (ad (7 + i))]) (n := 2) (Nat.le_of_ble_eq_true rfl)
  rw [lg_entry_eq]
  generalize (lg_sl ([.ref (ad 0), .ref (ad (7 + i))]) ++ List.replicate (2 - (lg_sl ([.ref (ad 0), .ref (ad (7 + i))])).length) Slot.unset).toArray = ls at hl ⊢
  have hl : lv_has ls 2 [(0, .ref (ad 0)), (1, .ref (ad (7 + i)))] := hl
  refine lv_aload_n hx hb d_PD_settle_0 rfl (lv_at hl 0 rfl) ?_
  refine lv_aload_n hx hb d_PD_settle_1 rfl (lv_at hl 1 rfl) ?_
  refine va_get (C := "PageDrive$Entry") (T := F_EN) (N := 3) hx hb hg iw_EN hown hK hP (7 + i) (pw_gE (i := i) (by omega)) rfl 1 (by decide) (hg (Cond.fieldLink "PageDrive" 112 "PageDrive$Entry" "synced" "LPageDrive$Content;") (wG_m3 (List.mem_of_getElem? (i := 7) rfl))) (fun _ h9 => h9) rfl d_PD_settle_2 ?_
  refine lv_aload_n hx hb d_PD_settle_5 rfl (lv_at hl 1 rfl) ?_
  refine va_get (C := "PageDrive$Entry") (T := F_EN) (N := 3) hx hb hg iw_EN hown hK hP (7 + i) (pw_gE (i := i) (by omega)) rfl 0 (by decide) (hg (Cond.fieldLink "PageDrive" 63 "PageDrive$Entry" "now" "LPageDrive$Content;") (wG_m3 (List.mem_of_getElem? (i := 5) rfl))) (fun _ h9 => h9) rfl d_PD_settle_6 ?_
  refine pw_callv (va_runV (As := [.ref (ad (23 + (2 * i + 1))), .ref (ad (23 + 2 * i))]) (rest := []) ⟨hx, hb, hml, hown, hg⟩ (c_PD_become l dC dI cI cB cE cL cZ n ad S (2 * i + 1) (2 * i) hn hv ho (by omega) (by omega) s.heap.size) (cwV 2 hg (gi_V (fun _ h => h) (wG_m4 (List.mem_of_getElem? (i := 3) rfl)) (wG_m4 (List.mem_of_getElem? (i := 4) rfl)) (wG_m14 (List.mem_of_getElem? (i := 1) rfl)) (wG_m1 (List.mem_of_getElem? (i := 1) rfl)) (wG_m4 (List.mem_of_getElem? (i := 5) rfl))) rfl rfl rfl (by decide +kernel) ⟨Nat.le_of_ble_eq_true rfl, Nat.le_of_ble_eq_true rfl⟩) (pw_pv hK hP hD (va_recv hK hP (ci := 0) (q0 := 0) rfl pw_g0) [.ref (ad (23 + (2 * i + 1))), .ref (ad (23 + 2 * i))]) rfl rfl hl.1 rfl (lv_room (Nat.le_of_ble_eq_true rfl)) d_PD_settle_9 ⟨Nat.le_of_ble_eq_true rfl, Nat.le_of_ble_eq_true rfl⟩) hD hS hA (fun T H locs hr hP hD hS => ?_)
  obtain ⟨hbe, hok⟩ := hr
  have hT4 : T 4 (2 * i) = S 4 (2 * i) := by rw [hbe.2.2.1, va_up_ne _ _ (by omega)]
  refine lv_aload_n hx hb d_PD_settle_12 rfl (lv_at hl 1 rfl) ?_
  refine lv_aload_n hx hb d_PD_settle_13 rfl (lv_at hl 1 rfl) ?_
  refine va_get (C := "PageDrive$Entry") (T := F_EN) (N := 3) hx hb hg iw_EN hown hK hP (7 + i) (pw_gE (i := i) (by omega)) rfl 0 (by decide) (hg (Cond.fieldLink "PageDrive" 63 "PageDrive$Entry" "now" "LPageDrive$Content;") (wG_m3 (List.mem_of_getElem? (i := 5) rfl))) (fun _ h9 => h9) rfl d_PD_settle_14 ?_
  refine va_get (C := "PageDrive$Content") (T := F_CO) (N := 3) hx hb hg iw_CO hown hK hP (23 + (2 * i)) (pw_gC (i := 2 * i) (by omega)) rfl 1 (by decide) (hg (Cond.fieldLink "PageDrive" 67 "PageDrive$Content" "size" "I") (wG_m2 (List.mem_of_getElem? (i := 34) rfl))) (fun _ h9 => h9) rfl d_PD_settle_17 ?_
  refine pq_top (y := nI (S 4 (2 * i))) (by rw [hT4]) ?_
  refine pr_low hx hb hg hown hK hP hD hS (i := i) (by omega) (hg (Cond.fieldLink "PageDrive" 105 "PageDrive$Entry" "low" "I") (wG_m3 (List.mem_of_getElem? (i := 9) rfl))) d_PD_settle_20 (fun H locs hP hD hS => ?_)
  generalize eS1 : pd_st T 6 i (S 4 (2 * i)) = S1 at hP hD
  have hct : ∀ q, pd_ct S1 q = pd_ct T q := fun q => by rw [← eS1]; exact pd_ct_congr (pd_bk _ (by decide)) (fun d _ k _ => by rw [pd_bk _ (by omega)]) q
  exact W.vret hx hb hret (fun t9 ht9 hW9 => ⟨⟨_, rfl, ⟨⟨T, hbe, by rw [eS1]; exact pd_sa_rf _⟩, pd_ok_congr (by rw [← eS1]; exact pd_ok_st hok (by decide) (by decide) (Or.inl (by decide))) (fun q _ => (hct q).symm)⟩, by rw [ht9]; exact hP, va_K.moved hW9.alike hK, hD⟩, hS.F ht9⟩) hS.2.2 d_PD_settle_23
set_option maxHeartbeats 4000000 in
set_option maxRecDepth 100000 in
/-- fall(entry, keep) -/
theorem c_PD_fall (l : Launch) (dC : Nat → ClassId) (dI : Nat → Nat → Nat) (cI cB cE cL cZ : ClassId) (n : Nat) (ad : Nat → Nat) (S : pdS) (i keep : Nat) (hn : n ≤ 1024) (hv : pd_v n S) (ho : pd_ok n S (pd_ct S)) (hi : i < 16) (hlo : S 6 i ≤ S 4 (2 * i)) (hkp : keep < 2 ^ 31) (sz : Nat) : CMv l (dC, dI) (pw_ty cI cB cE cL cZ) y_PD_fall w_PD_fall ({ frames := 4, cells := 0, slots := 0, locals := 105 }) [.ref (ad 0), .ref (ad (7 + i)), .int (nI keep)] (pw n ad cI cB cE S) (pw n ad cI cB cE) sz (fun S2 => pd_fal S S2 i keep ∧ pd_ok n S2 (pd_ct S2)) := by
  refine Met.ofW (cc := b_PD_fall) (maxL := 3) (ret := none) (by decide) rfl ?_
  intro p e s m args below meth c s₁ B hml hv
  obtain ⟨rfl, hsz, hP, hK, hD0⟩ := hv
  have hx := B.exec
  have hb := B.bytes
  have hret := B.returns
  have hts := atoms_spec (ws := w_PD_fall) B.pre
  have hg : ∀ w ∈ wsG, w.before _ s = true := fun w h => hts w (List.mem_cons_of_mem _ h)
  have hown : s.vm.findClass "PageDrive" = some m.cls := findClass_of_methodNamed B.named
  have hlocks := B.notSynchronized
  subst hsz
  have hD := hD0.self (sz := s.heap.size)
  generalize hAe : va_A (pw n ad cI cB cE S) s.heap.size = A at hD ⊢
  have hA : ∀ q : Nat, s.heap.size ≤ q → A q := fun q h => by rw [← hAe]; exact Or.inr h
  have hS : va_S A s.heap s.heap [] := va_S.rf
  have hl := lv_entry ([.ref (ad 0), .ref (ad (7 + i)), .int (nI keep)]) (n := 3) (Nat.le_of_ble_eq_true rfl)
  rw [lg_entry_eq]
  generalize (lg_sl ([.ref (ad 0), .ref (ad (7 + i)), .int (nI keep)]) ++ List.replicate (3 - (lg_sl ([.ref (ad 0), .ref (ad (7 + i)), .int (nI keep)])).length) Slot.unset).toArray = ls at hl ⊢
  have hl : lv_has ls 3 [(0, .ref (ad 0)), (1, .ref (ad (7 + i))), (2, .int (nI keep))] := hl
  have hs4 := (hv.1 (2 * i) (by omega)).1
  refine lv_iload_n hx hb d_PD_fall_0 rfl (lv_at hl 2 rfl) ?_
  refine pq_if_ne (tgt := 19) hx hb (by omega) d_PD_fall_1 (by decide) (fun h1 => ?_) (fun h1 => ?_)
  · refine lv_aload_n hx hb d_PD_fall_19 rfl (lv_at hl 1 rfl) ?_
    refine va_get (C := "PageDrive$Entry") (T := F_EN) (N := 3) hx hb hg iw_EN hown hK hP (7 + i) (pw_gE (i := i) (by omega)) rfl 0 (by decide) (hg (Cond.fieldLink "PageDrive" 63 "PageDrive$Entry" "now" "LPageDrive$Content;") (wG_m3 (List.mem_of_getElem? (i := 5) rfl))) (fun _ h9 => h9) rfl d_PD_fall_20 ?_
    refine va_get (C := "PageDrive$Content") (T := F_CO) (N := 3) hx hb hg iw_CO hown hK hP (23 + (2 * i)) (pw_gC (i := 2 * i) (by omega)) rfl 1 (by decide) (hg (Cond.fieldLink "PageDrive" 67 "PageDrive$Content" "size" "I") (wG_m2 (List.mem_of_getElem? (i := 34) rfl))) (fun _ h9 => h9) rfl d_PD_fall_23 ?_
    refine lv_aload_n hx hb d_PD_fall_26 rfl (lv_at hl 1 rfl) ?_
    refine va_get (C := "PageDrive$Entry") (T := F_EN) (N := 3) hx hb hg iw_EN hown hK hP (7 + i) (pw_gE (i := i) (by omega)) rfl 2 (by decide) (hg (Cond.fieldLink "PageDrive" 105 "PageDrive$Entry" "low" "I") (wG_m3 (List.mem_of_getElem? (i := 9) rfl))) (fun _ h9 => h9) rfl d_PD_fall_27 ?_
    refine pq_isub hx hb (by omega) d_PD_fall_30 ?_
    refine lv_iload_n hx hb d_PD_fall_31 rfl (lv_at hl 2 rfl) ?_
    refine lv_iconst (v := nI 1) hx hb d_PD_fall_32 (by decide) ?_
    refine pq_isub hx hb (by omega) d_PD_fall_33 ?_
    refine pq_icmp_le (tgt := 53) hx hb (by omega) (by omega) d_PD_fall_34 (by decide) (fun h2 => ?_) (fun h2 => ?_)
    · refine lv_aload_n hx hb d_PD_fall_53 rfl (lv_at hl 0 rfl) ?_
      refine lv_aload_n hx hb d_PD_fall_54 rfl (lv_at hl 1 rfl) ?_
      refine pw_callv (va_runV (As := [.ref (ad (7 + i))]) (rest := []) ⟨hx, hb, hml, hown, hg⟩ (c_PD_settle l dC dI cI cB cE cL cZ n ad S i hn hv ho hi s.heap.size) (cwV 1 hg (gi_V (fun _ h => h) (wG_m4 (List.mem_of_getElem? (i := 23) rfl)) (wG_m4 (List.mem_of_getElem? (i := 24) rfl)) (wG_m14 (List.mem_of_getElem? (i := 3) rfl)) (wG_m1 (List.mem_of_getElem? (i := 1) rfl)) (wG_m4 (List.mem_of_getElem? (i := 25) rfl))) rfl rfl rfl (by decide +kernel) ⟨Nat.le_of_ble_eq_true rfl, Nat.le_of_ble_eq_true rfl⟩) (pw_pv hK hP hD (va_recv hK hP (ci := 0) (q0 := 0) rfl pw_g0) [.ref (ad (7 + i))]) rfl rfl hl.1 rfl (lv_room (Nat.le_of_ble_eq_true rfl)) d_PD_fall_55 ⟨Nat.le_of_ble_eq_true rfl, Nat.le_of_ble_eq_true rfl⟩) hD hS hA (fun S2 H locs hr hP hD hS => ?_)
      exact W.vret hx hb hret (fun t9 ht9 hW9 => ⟨⟨_, rfl, ⟨⟨S, Or.inr (Or.inr ⟨by omega, by omega, pd_sa_rf S⟩), hr.1⟩, hr.2⟩, by rw [ht9]; exact hP, va_K.moved hW9.alike hK, hD⟩, hS.F ht9⟩) hS.2.2 d_PD_fall_58
    · have hle : S 6 i + keep - 1 ≤ S 4 (2 * i) := by omega
      refine lv_aload_n hx hb d_PD_fall_37 rfl (lv_at hl 0 rfl) ?_
      refine lv_aload_n hx hb d_PD_fall_38 rfl (lv_at hl 1 rfl) ?_
      refine va_get (C := "PageDrive$Entry") (T := F_EN) (N := 3) hx hb hg iw_EN hown hK hP (7 + i) (pw_gE (i := i) (by omega)) rfl 0 (by decide) (hg (Cond.fieldLink "PageDrive" 63 "PageDrive$Entry" "now" "LPageDrive$Content;") (wG_m3 (List.mem_of_getElem? (i := 5) rfl))) (fun _ h9 => h9) rfl d_PD_fall_39 ?_
      refine lv_aload_n hx hb d_PD_fall_42 rfl (lv_at hl 1 rfl) ?_
      refine va_get (C := "PageDrive$Entry") (T := F_EN) (N := 3) hx hb hg iw_EN hown hK hP (7 + i) (pw_gE (i := i) (by omega)) rfl 2 (by decide) (hg (Cond.fieldLink "PageDrive" 105 "PageDrive$Entry" "low" "I") (wG_m3 (List.mem_of_getElem? (i := 9) rfl))) (fun _ h9 => h9) rfl d_PD_fall_43 ?_
      refine lv_iload_n hx hb d_PD_fall_46 rfl (lv_at hl 2 rfl) ?_
      refine pq_iadd hx hb d_PD_fall_47 ?_
      refine lv_iconst (v := nI 1) hx hb d_PD_fall_48 (by decide) ?_
      refine pq_isub hx hb (by omega) d_PD_fall_49 ?_
      refine pw_callv (va_runV (As := [.ref (ad (23 + 2 * i)), .int (nI (((S 6 i) + keep) - 1))]) (rest := []) ⟨hx, hb, hml, hown, hg⟩ (c_PD_shorten l dC dI cI cB cE cL cZ n ad S (2 * i) (S 6 i + keep - 1) (fun q => pd_ct S q - pd_tl S (2 * i) (S 6 i + keep - 1) q) hn (by omega) hle hs4 (fun k hk => hv.2.1 _ k (by omega) hk) (fun q => by have h7 := pd_ct_bd hv q; show _ - _ < _; omega) (pd_sh_pre (by omega) hle ho) s.heap.size) (cwV 2 hg (gi_V (fun _ h => h) (wG_m4 (List.mem_of_getElem? (i := 13) rfl)) (wG_m4 (List.mem_of_getElem? (i := 14) rfl)) (wG_m14 (List.mem_of_getElem? (i := 2) rfl)) (wG_m1 (List.mem_of_getElem? (i := 1) rfl)) (wG_m4 (List.mem_of_getElem? (i := 15) rfl))) rfl rfl rfl (by decide +kernel) ⟨Nat.le_of_ble_eq_true rfl, Nat.le_of_ble_eq_true rfl⟩) (pw_pv hK hP hD (va_recv hK hP (ci := 0) (q0 := 0) rfl pw_g0) [.ref (ad (23 + 2 * i)), .int (nI (((S 6 i) + keep) - 1))]) rfl rfl hl.1 rfl (lv_room (Nat.le_of_ble_eq_true rfl)) d_PD_fall_50 ⟨Nat.le_of_ble_eq_true rfl, Nat.le_of_ble_eq_true rfl⟩) hD hS hA (fun T H locs hr hP hD hS => ?_)
      obtain ⟨T0, ht1, ht2, ht3⟩ := hr
      have hsh := pd_sh_of ht1 ht3
      have hoT : pd_ok n T (pd_ct T) := pd_sh_post (by omega) hle hsh (by rw [ht3]; exact pd_ok_st ht2 (by decide) (by decide) (Or.inl (by decide)))
      refine lv_aload_n hx hb d_PD_fall_53 rfl (lv_at hl 0 rfl) ?_
      refine lv_aload_n hx hb d_PD_fall_54 rfl (lv_at hl 1 rfl) ?_
      refine pw_callv (va_runV (As := [.ref (ad (7 + i))]) (rest := []) ⟨hx, hb, hml, hown, hg⟩ (c_PD_settle l dC dI cI cB cE cL cZ n ad T i hn (pd_sh_v hsh hle hv) hoT hi H.size) (cwV 1 hg (gi_V (fun _ h => h) (wG_m4 (List.mem_of_getElem? (i := 23) rfl)) (wG_m4 (List.mem_of_getElem? (i := 24) rfl)) (wG_m14 (List.mem_of_getElem? (i := 3) rfl)) (wG_m1 (List.mem_of_getElem? (i := 1) rfl)) (wG_m4 (List.mem_of_getElem? (i := 25) rfl))) rfl rfl rfl (by decide +kernel) ⟨Nat.le_of_ble_eq_true rfl, Nat.le_of_ble_eq_true rfl⟩) (pw_pv hK hP hD (va_recv hK hP (ci := 0) (q0 := 0) rfl pw_g0) [.ref (ad (7 + i))]) rfl rfl hl.1 rfl (lv_room (Nat.le_of_ble_eq_true rfl)) d_PD_fall_55 ⟨Nat.le_of_ble_eq_true rfl, Nat.le_of_ble_eq_true rfl⟩) hD hS hA (fun S2 H locs hr hP hD hS => ?_)
      exact W.vret hx hb hret (fun t9 ht9 hW9 => ⟨⟨_, rfl, ⟨⟨T, Or.inr (Or.inl ⟨by omega, by omega, hsh⟩), hr.1⟩, hr.2⟩, by rw [ht9]; exact hP, va_K.moved hW9.alike hK, hD⟩, hS.F ht9⟩) hS.2.2 d_PD_fall_58
  · refine lv_aload_n hx hb d_PD_fall_4 rfl (lv_at hl 0 rfl) ?_
    refine lv_aload_n hx hb d_PD_fall_5 rfl (lv_at hl 1 rfl) ?_
    refine va_get (C := "PageDrive$Entry") (T := F_EN) (N := 3) hx hb hg iw_EN hown hK hP (7 + i) (pw_gE (i := i) (by omega)) rfl 0 (by decide) (hg (Cond.fieldLink "PageDrive" 63 "PageDrive$Entry" "now" "LPageDrive$Content;") (wG_m3 (List.mem_of_getElem? (i := 5) rfl))) (fun _ h9 => h9) rfl d_PD_fall_6 ?_
    refine lv_aload_n hx hb d_PD_fall_9 rfl (lv_at hl 1 rfl) ?_
    refine va_get (C := "PageDrive$Entry") (T := F_EN) (N := 3) hx hb hg iw_EN hown hK hP (7 + i) (pw_gE (i := i) (by omega)) rfl 1 (by decide) (hg (Cond.fieldLink "PageDrive" 112 "PageDrive$Entry" "synced" "LPageDrive$Content;") (wG_m3 (List.mem_of_getElem? (i := 7) rfl))) (fun _ h9 => h9) rfl d_PD_fall_10 ?_
    refine pw_callv (va_runV (As := [.ref (ad (23 + 2 * i)), .ref (ad (23 + (2 * i + 1)))]) (rest := []) ⟨hx, hb, hml, hown, hg⟩ (c_PD_become l dC dI cI cB cE cL cZ n ad S (2 * i) (2 * i + 1) hn hv ho (by omega) (by omega) s.heap.size) (cwV 2 hg (gi_V (fun _ h => h) (wG_m4 (List.mem_of_getElem? (i := 3) rfl)) (wG_m4 (List.mem_of_getElem? (i := 4) rfl)) (wG_m14 (List.mem_of_getElem? (i := 1) rfl)) (wG_m1 (List.mem_of_getElem? (i := 1) rfl)) (wG_m4 (List.mem_of_getElem? (i := 5) rfl))) rfl rfl rfl (by decide +kernel) ⟨Nat.le_of_ble_eq_true rfl, Nat.le_of_ble_eq_true rfl⟩) (pw_pv hK hP hD (va_recv hK hP (ci := 0) (q0 := 0) rfl pw_g0) [.ref (ad (23 + 2 * i)), .ref (ad (23 + (2 * i + 1)))]) rfl rfl hl.1 rfl (lv_room (Nat.le_of_ble_eq_true rfl)) d_PD_fall_13 ⟨Nat.le_of_ble_eq_true rfl, Nat.le_of_ble_eq_true rfl⟩) hD hS hA (fun T H locs hr hP hD hS => ?_)
    obtain ⟨hbe, hoT⟩ := hr
    refine lv_goto (tgt := 53) hx hb d_PD_fall_16 (by decide) ?_
    refine lv_aload_n hx hb d_PD_fall_53 rfl (lv_at hl 0 rfl) ?_
    refine lv_aload_n hx hb d_PD_fall_54 rfl (lv_at hl 1 rfl) ?_
    refine pw_callv (va_runV (As := [.ref (ad (7 + i))]) (rest := []) ⟨hx, hb, hml, hown, hg⟩ (c_PD_settle l dC dI cI cB cE cL cZ n ad T i hn (pd_be_v hbe (by omega) hv) hoT hi H.size) (cwV 1 hg (gi_V (fun _ h => h) (wG_m4 (List.mem_of_getElem? (i := 23) rfl)) (wG_m4 (List.mem_of_getElem? (i := 24) rfl)) (wG_m14 (List.mem_of_getElem? (i := 3) rfl)) (wG_m1 (List.mem_of_getElem? (i := 1) rfl)) (wG_m4 (List.mem_of_getElem? (i := 25) rfl))) rfl rfl rfl (by decide +kernel) ⟨Nat.le_of_ble_eq_true rfl, Nat.le_of_ble_eq_true rfl⟩) (pw_pv hK hP hD (va_recv hK hP (ci := 0) (q0 := 0) rfl pw_g0) [.ref (ad (7 + i))]) rfl rfl hl.1 rfl (lv_room (Nat.le_of_ble_eq_true rfl)) d_PD_fall_55 ⟨Nat.le_of_ble_eq_true rfl, Nat.le_of_ble_eq_true rfl⟩) hD hS hA (fun S2 H locs hr hP hD hS => ?_)
    exact W.vret hx hb hret (fun t9 ht9 hW9 => ⟨⟨_, rfl, ⟨⟨T, Or.inl ⟨h1, hbe⟩, hr.1⟩, hr.2⟩, by rw [ht9]; exact hP, va_K.moved hW9.alike hK, hD⟩, hS.F ht9⟩) hS.2.2 d_PD_fall_58
end
section
/-! THE CLASS, 5: grow, writeTape -/
set_option maxHeartbeats 4000000 in
set_option maxRecDepth 100000 in
/-- grow(content, after) -/
theorem c_PD_grow (l : Launch) (dC : Nat → ClassId) (dI : Nat → Nat → Nat) (cI cB cE cL cZ : ClassId) (n : Nat) (ad : Nat → Nat) (S : pdS) (cc add : Nat) (hn : n ≤ 1024) (hv : pd_v n S) (ho : pd_ok n S (pd_ct S)) (hc : cc < 32) (hrm : pd_rm S cc add) (sz : Nat) : CMv l (dC, dI) (pw_ty cI cB cE cL cZ) y_PD_grow w_PD_grow ({ frames := 2, cells := 0, slots := 0, locals := 82 }) [.ref (ad 0), .ref (ad (23 + cc)), .int (nI (S 4 cc + add))] (pw n ad cI cB cE S) (pw n ad cI cB cE) sz (fun S2 => pd_gw n S S2 cc add) := by
  refine Met.ofW (cc := b_PD_grow) (maxL := 4) (ret := none) (by decide) rfl ?_
  intro p e s m args below meth c s₁ B hml hv
  obtain ⟨rfl, hsz, hP, hK, hD0⟩ := hv
  have hx := B.exec
  have hb := B.bytes
  have hret := B.returns
  have hts := atoms_spec (ws := w_PD_grow) B.pre
  have hg : ∀ w ∈ wsG, w.before _ s = true := fun w h => hts w (List.mem_cons_of_mem _ h)
  have hown : s.vm.findClass "PageDrive" = some m.cls := findClass_of_methodNamed B.named
  have hlocks := B.notSynchronized
  subst hsz
  have hD := hD0.self (sz := s.heap.size)
  generalize hAe : va_A (pw n ad cI cB cE S) s.heap.size = A at hD ⊢
  have hA : ∀ q : Nat, s.heap.size ≤ q → A q := fun q h => by rw [← hAe]; exact Or.inr h
  have hS : va_S A s.heap s.heap [] := va_S.rf
  have hl := lv_entry ([.ref (ad 0), .ref (ad (23 + cc)), .int (nI (S 4 cc + add))]) (n := 4) (Nat.le_of_ble_eq_true rfl)
  rw [lg_entry_eq]
  generalize (lg_sl ([.ref (ad 0), .ref (ad (23 + cc)), .int (nI (S 4 cc + add))]) ++ List.replicate (4 - (lg_sl ([.ref (ad 0), .ref (ad (23 + cc)), .int (nI (S 4 cc + add))])).length) Slot.unset).toArray = ls at hl ⊢
  have hl : lv_has ls 4 [(0, .ref (ad 0)), (1, .ref (ad (23 + cc))), (2, .int (nI (S 4 cc + add)))] := hl
  have hs4 := (hv.1 cc hc).1
  have hm := pd_pf_mono (show S 4 cc ≤ S 4 cc + add by omega)
  have h400 := hrm.1
  have haf2 : S 4 cc + add < 1000000 := by unfold pd_pf at h400; omega
  have hu : S 7 0 ≤ n := by have := ho.2.2.2; omega
  refine lv_aload_n hx hb d_PD_grow_0 rfl (lv_at hl 0 rfl) ?_
  refine lv_aload_n hx hb d_PD_grow_1 rfl (lv_at hl 1 rfl) ?_
  refine lv_iload_n hx hb d_PD_grow_2 rfl (lv_at hl 2 rfl) ?_
  refine pw_callip (va_runV (As := [.ref (ad (23 + cc)), .int (nI (S 4 cc + add))]) (rest := []) ⟨hx, hb, hml, hown, hg⟩ (c_PD_mustCopyLast l dC dI cI cB cE cL cZ n ad S cc (S 4 cc + add) hn hv ho hc (by omega) haf2 s.heap.size) (cwV 2 hg (gi_V (fun _ h => h) (wG_m7 (List.mem_of_getElem? (i := 25) rfl)) (wG_m7 (List.mem_of_getElem? (i := 26) rfl)) (wG_m14 (List.mem_of_getElem? (i := 7) rfl)) (wG_m1 (List.mem_of_getElem? (i := 1) rfl)) (wG_m7 (List.mem_of_getElem? (i := 27) rfl))) rfl rfl rfl (by decide +kernel) ⟨Nat.le_of_ble_eq_true rfl, Nat.le_of_ble_eq_true rfl⟩) (pw_pv hK hP hD (va_recv hK hP (ci := 0) (q0 := 0) rfl pw_g0) [.ref (ad (23 + cc)), .int (nI (S 4 cc + add))]) rfl rfl hl.1 rfl (lv_room (Nat.le_of_ble_eq_true rfl)) d_PD_grow_3 ⟨Nat.le_of_ble_eq_true rfl, Nat.le_of_ble_eq_true rfl⟩) hD hS hA (fun r1 H locs hr hP hD hS => ?_)
  rw [Nat.add_sub_cancel_left] at hr
  rcases hr with ⟨h3, rfl⟩ | ⟨h3, rfl⟩
  · refine pq_if_eq (tgt := 36) hx hb (by omega) d_PD_grow_6 (by decide) (fun h9 => absurd h9 (by omega)) (fun _ => ?_)
    have hneed : pd_pf (S 4 cc + add) - pd_pf (S 4 cc) + 1 ≤ S 7 0 := by rcases hrm.2 with q | q; exact q.2; exact absurd h3 q.1
    have hl0 : S 4 cc / 64 < pd_pf (S 4 cc) := by have := h3.2.1; unfold pd_pf; omega
    have hl1 : pd_pf (S 4 cc) ≤ 400 := by omega
    have hpg := hv.2.1 cc _ hc hl0
    have hbd := pd_ct_bd hv (S (8 + cc) (S 4 cc / 64))
    have hc2 := h3.2.2
    refine lv_aload_n hx hb d_PD_grow_9 rfl (lv_at hl 1 rfl) ?_
    refine va_get (C := "PageDrive$Content") (T := F_CO) (N := 3) hx hb hg iw_CO hown hK hP (23 + cc) (pw_gC (i := cc) (by omega)) rfl 1 (by decide) (hg (Cond.fieldLink "PageDrive" 67 "PageDrive$Content" "size" "I") (wG_m2 (List.mem_of_getElem? (i := 34) rfl))) (fun _ h9 => h9) rfl d_PD_grow_10 ?_
    refine lv_bipush (v := nI 64) hx hb d_PD_grow_13 (by decide) ?_
    refine pq_idiv hx hb (by omega) (by omega) (by omega) d_PD_grow_15 ?_
    refine lv_istore_n (lv' := [(3, .int (nI ((S 4 cc) / 64))), (0, .ref (ad 0)), (1, .ref (ad (23 + cc))), (2, .int (nI (S 4 cc + add)))]) hx hb d_PD_grow_16 rfl hl (by decide) rfl (fun ls hl => ?_)
    refine lv_aload_n hx hb d_PD_grow_17 rfl (lv_at hl 2 rfl) ?_
    refine va_get (C := "PageDrive$Content") (T := F_CO) (N := 3) hx hb hg iw_CO hown hK hP (23 + cc) (pw_gC (i := cc) (by omega)) rfl 0 (by decide) (hg (Cond.fieldLink "PageDrive" 171 "PageDrive$Content" "row" "[I") (wG_m2 (List.mem_of_getElem? (i := 32) rfl))) (fun _ h9 => h9) rfl d_PD_grow_18 ?_
    refine lv_iload_n hx hb d_PD_grow_21 rfl (lv_at hl 0 rfl) ?_
    refine lv_aload_n hx hb d_PD_grow_22 rfl (lv_at hl 1 rfl) ?_
    refine va_get (C := "PageDrive") (T := F_PD) (N := 4) hx hb hg iw_PD hown hK hP (0) pw_g0 rfl 0 (by decide) (hg (Cond.fieldLink "PageDrive" 23 "PageDrive" "pool" "LPageDrive$Pool;") (wG_m3 (List.mem_of_getElem? (i := 17) rfl))) (fun _ h9 => h9) rfl d_PD_grow_23 ?_
    refine lv_aload_n hx hb d_PD_grow_26 rfl (lv_at hl 2 rfl) ?_
    refine va_get (C := "PageDrive$Content") (T := F_CO) (N := 3) hx hb hg iw_CO hown hK hP (23 + cc) (pw_gC (i := cc) (by omega)) rfl 0 (by decide) (hg (Cond.fieldLink "PageDrive" 171 "PageDrive$Content" "row" "[I") (wG_m2 (List.mem_of_getElem? (i := 32) rfl))) (fun _ h9 => h9) rfl d_PD_grow_27 ?_
    refine lv_iload_n hx hb d_PD_grow_30 rfl (lv_at hl 0 rfl) ?_
    refine pq_iald hx hb hK hP (55 + cc) 0 (pw_gR (i := cc) (by omega)) rfl (by omega) (by omega) d_PD_grow_31 ?_
    refine pw_calli (va_runV (As := [.int (nI (S (8 + cc) ((S 4 cc) / 64)))]) (rest := [.int (nI ((S 4 cc) / 64)), .ref (ad (55 + cc))]) ⟨hx, hb, hml, hown, hg⟩ (c_PO_exchangeForCopy l dC dI cI cB cE cL cZ n ad S (pd_ct S) (S (8 + cc) (S 4 cc / 64)) hpg hn ho (by omega) hc2 (by omega) H.size) (cwV 1 hg (gi_V (fun _ h => h) (wG_m8 (List.mem_of_getElem? (i := 9) rfl)) (wG_m8 (List.mem_of_getElem? (i := 10) rfl)) (wG_m8 (List.mem_of_getElem? (i := 11) rfl)) (wG_m1 (List.mem_of_getElem? (i := 2) rfl)) (wG_m8 (List.mem_of_getElem? (i := 12) rfl))) rfl rfl rfl (by decide +kernel) ⟨Nat.le_of_ble_eq_true rfl, Nat.le_of_ble_eq_true rfl⟩) (pw_pv hK hP hD (va_recv hK hP (ci := 1) (q0 := 1) rfl pw_g1) [.int (nI (S (8 + cc) ((S 4 cc) / 64)))]) rfl rfl hl.1 rfl (lv_room (Nat.le_of_ble_eq_true rfl)) d_PD_grow_32 ⟨Nat.le_of_ble_eq_true rfl, Nat.le_of_ble_eq_true rfl⟩) hD hS hA (fun r2 S2 H locs hr hP hD hS => ?_)
    obtain ⟨rfl, eS2⟩ := hr
    refine pr_row hx hb hK hP hD hS (i := cc) (by omega) (by omega) (by omega) rfl d_PD_grow_35 (fun H locs hP hD hS => ?_)
    generalize eS3 : pd_st S2 (8 + cc) ((S 4 cc) / 64) (S 2 (S 7 0 - 1)) = S3 at hP hD
    obtain ⟨hxc, hx70⟩ := pd_xc_yes hc hv ho (by omega) h3 (T := S3) (by rw [← eS3, eS2])
    have hT70 : pd_pf (S 4 cc + add) - pd_pf (S 4 cc) ≤ S3 7 0 ∧ S3 7 0 ≤ n := ⟨by omega, by omega⟩
    have hT4 : S3 4 = S 4 := hxc.2.1
    have hT4c : S3 4 cc = S 4 cc := by rw [hT4]
    refine lv_aload_n hx hb d_PD_grow_36 rfl (lv_at hl 2 rfl) ?_
    refine va_get (C := "PageDrive$Content") (T := F_CO) (N := 3) hx hb hg iw_CO hown hK hP (23 + cc) (pw_gC (i := cc) (by omega)) rfl 1 (by decide) (hg (Cond.fieldLink "PageDrive" 67 "PageDrive$Content" "size" "I") (wG_m2 (List.mem_of_getElem? (i := 34) rfl))) (fun _ h9 => h9) rfl d_PD_grow_37 ?_
    refine pw_callip (va_runS (As := [.int (nI (S3 4 cc))]) (rest := []) ⟨hx, hb, hml, hown, hg⟩ (c_PD_pagesFor l dC dI cI cB cE cL cZ (pw n ad cI cB cE S3) (S3 4 cc) (by omega) H.size) (cwS 1 hg (gi_S (fun _ h => h) (wG_m4 (List.mem_of_getElem? (i := 6) rfl)) (wG_m4 (List.mem_of_getElem? (i := 7) rfl)) (wG_m1 (List.mem_of_getElem? (i := 1) rfl)) (wG_m4 (List.mem_of_getElem? (i := 8) rfl))) rfl rfl rfl (by decide +kernel) ⟨Nat.le_of_ble_eq_true rfl, Nat.le_of_ble_eq_true rfl⟩) (pw_ps hK hP hD [.int (nI (S3 4 cc))]) rfl rfl hl.1 rfl (lv_room (Nat.le_of_ble_eq_true rfl)) d_PD_grow_40 ⟨Nat.le_of_ble_eq_true rfl, Nat.le_of_ble_eq_true rfl⟩) hD hS hA (fun r4 H locs hr hP hD hS => ?_)
    subst hr
    refine pq_top (y := nI (pd_pf (S 4 cc))) (by rw [hT4c]) ?_
    refine lv_istore_n (lv' := [(3, .int (nI (pd_pf (S 4 cc)))), (0, .ref (ad 0)), (1, .ref (ad (23 + cc))), (2, .int (nI (S 4 cc + add)))]) hx hb d_PD_grow_43 rfl hl (by decide) rfl (fun ls hl => ?_)
    refine pw_loop (fun mm H locs ls => ∃ (X : pdS) (k : Nat), mm = pd_pf (S 4 cc + add) - k ∧ pd_pf (S 4 cc) ≤ k ∧ k ≤ pd_pf (S 4 cc + add) ∧ pd_gl n S3 X cc (pd_pf (S 4 cc)) k ∧ va_P (dC, dI) pwCl (pw n ad cI cB cE X) H ∧ va_D A (pw n ad cI cB cE X) ∧ va_S A s.heap H locs ∧ lv_has ls 4 [(3, .int (nI k)), (0, .ref (ad 0)), (1, .ref (ad (23 + cc))), (2, .int (nI (S 4 cc + add)))]) ?_ _ _ _ _ ⟨S3, pd_pf (S 4 cc), rfl, Nat.le_refl _, hm, pd_gl_0 cc _ hxc.2.2.2.2.2.2.2.1, hP, hD, hS, hl⟩
    rintro mm H locs ls ⟨X, k, hmm, hk1, hk2, hgl, hP, hD, hS, hl⟩ ih
    refine lv_iload_n hx hb d_PD_grow_44 rfl (lv_at hl 0 rfl) ?_
    refine lv_iload_n hx hb d_PD_grow_45 rfl (lv_at hl 3 rfl) ?_
    refine pw_callip (va_runS (As := [.int (nI (S 4 cc + add))]) (rest := [.int (nI k)]) ⟨hx, hb, hml, hown, hg⟩ (c_PD_pagesFor l dC dI cI cB cE cL cZ (pw n ad cI cB cE X) (S 4 cc + add) (by omega) H.size) (cwS 1 hg (gi_S (fun _ h => h) (wG_m4 (List.mem_of_getElem? (i := 6) rfl)) (wG_m4 (List.mem_of_getElem? (i := 7) rfl)) (wG_m1 (List.mem_of_getElem? (i := 1) rfl)) (wG_m4 (List.mem_of_getElem? (i := 8) rfl))) rfl rfl rfl (by decide +kernel) ⟨Nat.le_of_ble_eq_true rfl, Nat.le_of_ble_eq_true rfl⟩) (pw_ps hK hP hD [.int (nI (S 4 cc + add))]) rfl rfl hl.1 rfl (lv_room (Nat.le_of_ble_eq_true rfl)) d_PD_grow_46 ⟨Nat.le_of_ble_eq_true rfl, Nat.le_of_ble_eq_true rfl⟩) hD hS hA (fun r5 H locs hr hP hD hS => ?_)
    subst hr
    refine pq_icmp_ge (tgt := 71) hx hb (by omega) (by omega) d_PD_grow_49 (by decide) (fun h1 => ?_) (fun h1 => ?_)
    · have hkk : k = pd_pf (S 4 cc + add) := by omega
      subst hkk
      refine lv_aload_n hx hb d_PD_grow_71 rfl (lv_at hl 2 rfl) ?_
      refine lv_iload_n hx hb d_PD_grow_72 rfl (lv_at hl 3 rfl) ?_
      refine pr_size hx hb hg hown hK hP hD hS (i := cc) (by omega) (hg (Cond.fieldLink "PageDrive" 67 "PageDrive$Content" "size" "I") (wG_m2 (List.mem_of_getElem? (i := 34) rfl))) d_PD_grow_73 (fun H locs hP hD hS => ?_)
      generalize eS6 : pd_st X 4 cc (S 4 cc + add) = S6 at hP hD
      refine lv_aload_n hx hb d_PD_grow_76 rfl (lv_at hl 2 rfl) ?_
      refine lv_iconst (v := nI 1) hx hb d_PD_grow_77 (by decide) ?_
      refine pr_there hx hb hg hown hK hP hD hS (i := cc) (by omega) (by omega) (hg (Cond.fieldLink "PageDrive" 91 "PageDrive$Content" "there" "Z") (wG_m2 (List.mem_of_getElem? (i := 36) rfl))) d_PD_grow_78 (fun H locs hP hD hS => ?_)
      generalize eS7 : pd_st S6 5 cc 1 = S7 at hP hD
      exact W.vret hx hb hret (fun t9 ht9 hW9 => ⟨⟨_, rfl, pd_gw_of hc hv hxc hgl (by rw [← eS7, ← eS6]), by rw [ht9]; exact hP, va_K.moved hW9.alike hK, hD⟩, hS.F ht9⟩) hS.2.2 d_PD_grow_81
    · have hX70 : 0 < X 7 0 := by have := hgl.2.2.2.1; omega
      have hXn : X 7 0 ≤ n := by have := hgl.2.2.2.1; omega
      obtain ⟨hpn, hgs⟩ := pd_gl_s hgl hk1 hX70
      refine lv_aload_n hx hb d_PD_grow_52 rfl (lv_at hl 2 rfl) ?_
      refine va_get (C := "PageDrive$Content") (T := F_CO) (N := 3) hx hb hg iw_CO hown hK hP (23 + cc) (pw_gC (i := cc) (by omega)) rfl 0 (by decide) (hg (Cond.fieldLink "PageDrive" 171 "PageDrive$Content" "row" "[I") (wG_m2 (List.mem_of_getElem? (i := 32) rfl))) (fun _ h9 => h9) rfl d_PD_grow_53 ?_
      refine lv_iload_n hx hb d_PD_grow_56 rfl (lv_at hl 0 rfl) ?_
      refine lv_aload_n hx hb d_PD_grow_57 rfl (lv_at hl 1 rfl) ?_
      refine va_get (C := "PageDrive") (T := F_PD) (N := 4) hx hb hg iw_PD hown hK hP (0) pw_g0 rfl 0 (by decide) (hg (Cond.fieldLink "PageDrive" 23 "PageDrive" "pool" "LPageDrive$Pool;") (wG_m3 (List.mem_of_getElem? (i := 17) rfl))) (fun _ h9 => h9) rfl d_PD_grow_58 ?_
      refine pw_calli (va_runV (As := []) (rest := [.int (nI k), .ref (ad (55 + cc))]) ⟨hx, hb, hml, hown, hg⟩ (c_PO_take l dC dI cI cB cE cL cZ n ad X hX70 hXn hn hpn H.size) (cwV 0 hg (gi_V (fun _ h => h) (wG_m8 (List.mem_of_getElem? (i := 19) rfl)) (wG_m8 (List.mem_of_getElem? (i := 14) rfl)) (wG_m8 (List.mem_of_getElem? (i := 15) rfl)) (wG_m1 (List.mem_of_getElem? (i := 2) rfl)) (wG_m8 (List.mem_of_getElem? (i := 16) rfl))) rfl rfl rfl (by decide +kernel) ⟨Nat.le_of_ble_eq_true rfl, Nat.le_of_ble_eq_true rfl⟩) (pw_pv hK hP hD (va_recv hK hP (ci := 1) (q0 := 1) rfl pw_g1) []) rfl rfl hl.1 rfl (lv_room (Nat.le_of_ble_eq_true rfl)) d_PD_grow_61 ⟨Nat.le_of_ble_eq_true rfl, Nat.le_of_ble_eq_true rfl⟩) hD hS hA (fun r4 X2 H locs hr hP hD hS => ?_)
      obtain ⟨rfl, eX2⟩ := hr
      refine pr_row hx hb hK hP hD hS (i := cc) (by omega) (by omega) (by omega) rfl d_PD_grow_64 (fun H locs hP hD hS => ?_)
      generalize eS8 : pd_st X2 (8 + cc) k (X 2 (X 7 0 - 1)) = S8 at hP hD
      refine lv_iinc (v := (nI (k + 1))) (lv' := [(3, .int (nI (k + 1))), (0, .ref (ad 0)), (1, .ref (ad (23 + cc))), (2, .int (nI (S 4 cc + add)))]) hx hb d_PD_grow_65 hl (k := 0) rfl (pq_inc _) (by decide) rfl (fun ls hl => ?_)
      refine lv_goto (tgt := 44) hx hb d_PD_grow_68 (by decide) ?_
      exact ih _ _ _ _ (by omega) ⟨_, k + 1, rfl, by omega, by omega, by rw [← eS8, eX2]; exact hgs, hP, hD, hS, hl⟩
  · refine pq_if_eq (tgt := 36) hx hb (by omega) d_PD_grow_6 (by decide) (fun _ => ?_) (fun h9 => absurd h9 (by omega))
    have hneed : pd_pf (S 4 cc + add) - pd_pf (S 4 cc) ≤ S 7 0 := by rcases hrm.2 with q | q; exact absurd q.1 h3; exact q.2
    have hxc := pd_xc_no h3 hv ho
    have hT70 : pd_pf (S 4 cc + add) - pd_pf (S 4 cc) ≤ S 7 0 ∧ S 7 0 ≤ n := ⟨by omega, by omega⟩
    have hT4 : S 4 = S 4 := hxc.2.1
    have hT4c : S 4 cc = S 4 cc := by rw [hT4]
    refine lv_aload_n hx hb d_PD_grow_36 rfl (lv_at hl 1 rfl) ?_
    refine va_get (C := "PageDrive$Content") (T := F_CO) (N := 3) hx hb hg iw_CO hown hK hP (23 + cc) (pw_gC (i := cc) (by omega)) rfl 1 (by decide) (hg (Cond.fieldLink "PageDrive" 67 "PageDrive$Content" "size" "I") (wG_m2 (List.mem_of_getElem? (i := 34) rfl))) (fun _ h9 => h9) rfl d_PD_grow_37 ?_
    refine pw_callip (va_runS (As := [.int (nI (S 4 cc))]) (rest := []) ⟨hx, hb, hml, hown, hg⟩ (c_PD_pagesFor l dC dI cI cB cE cL cZ (pw n ad cI cB cE S) (S 4 cc) (by omega) H.size) (cwS 1 hg (gi_S (fun _ h => h) (wG_m4 (List.mem_of_getElem? (i := 6) rfl)) (wG_m4 (List.mem_of_getElem? (i := 7) rfl)) (wG_m1 (List.mem_of_getElem? (i := 1) rfl)) (wG_m4 (List.mem_of_getElem? (i := 8) rfl))) rfl rfl rfl (by decide +kernel) ⟨Nat.le_of_ble_eq_true rfl, Nat.le_of_ble_eq_true rfl⟩) (pw_ps hK hP hD [.int (nI (S 4 cc))]) rfl rfl hl.1 rfl (lv_room (Nat.le_of_ble_eq_true rfl)) d_PD_grow_40 ⟨Nat.le_of_ble_eq_true rfl, Nat.le_of_ble_eq_true rfl⟩) hD hS hA (fun r9 H locs hr hP hD hS => ?_)
    subst hr
    refine pq_top (y := nI (pd_pf (S 4 cc))) (by rw [hT4c]) ?_
    refine lv_istore_n (lv' := [(3, .int (nI (pd_pf (S 4 cc)))), (0, .ref (ad 0)), (1, .ref (ad (23 + cc))), (2, .int (nI (S 4 cc + add)))]) hx hb d_PD_grow_43 rfl hl (by decide) rfl (fun ls hl => ?_)
    refine pw_loop (fun mm H locs ls => ∃ (X : pdS) (k : Nat), mm = pd_pf (S 4 cc + add) - k ∧ pd_pf (S 4 cc) ≤ k ∧ k ≤ pd_pf (S 4 cc + add) ∧ pd_gl n S X cc (pd_pf (S 4 cc)) k ∧ va_P (dC, dI) pwCl (pw n ad cI cB cE X) H ∧ va_D A (pw n ad cI cB cE X) ∧ va_S A s.heap H locs ∧ lv_has ls 4 [(3, .int (nI k)), (0, .ref (ad 0)), (1, .ref (ad (23 + cc))), (2, .int (nI (S 4 cc + add)))]) ?_ _ _ _ _ ⟨S, pd_pf (S 4 cc), rfl, Nat.le_refl _, hm, pd_gl_0 cc _ hxc.2.2.2.2.2.2.2.1, hP, hD, hS, hl⟩
    rintro mm H locs ls ⟨X, k, hmm, hk1, hk2, hgl, hP, hD, hS, hl⟩ ih
    refine lv_iload_n hx hb d_PD_grow_44 rfl (lv_at hl 0 rfl) ?_
    refine lv_iload_n hx hb d_PD_grow_45 rfl (lv_at hl 3 rfl) ?_
    refine pw_callip (va_runS (As := [.int (nI (S 4 cc + add))]) (rest := [.int (nI k)]) ⟨hx, hb, hml, hown, hg⟩ (c_PD_pagesFor l dC dI cI cB cE cL cZ (pw n ad cI cB cE X) (S 4 cc + add) (by omega) H.size) (cwS 1 hg (gi_S (fun _ h => h) (wG_m4 (List.mem_of_getElem? (i := 6) rfl)) (wG_m4 (List.mem_of_getElem? (i := 7) rfl)) (wG_m1 (List.mem_of_getElem? (i := 1) rfl)) (wG_m4 (List.mem_of_getElem? (i := 8) rfl))) rfl rfl rfl (by decide +kernel) ⟨Nat.le_of_ble_eq_true rfl, Nat.le_of_ble_eq_true rfl⟩) (pw_ps hK hP hD [.int (nI (S 4 cc + add))]) rfl rfl hl.1 rfl (lv_room (Nat.le_of_ble_eq_true rfl)) d_PD_grow_46 ⟨Nat.le_of_ble_eq_true rfl, Nat.le_of_ble_eq_true rfl⟩) hD hS hA (fun r10 H locs hr hP hD hS => ?_)
    subst hr
    refine pq_icmp_ge (tgt := 71) hx hb (by omega) (by omega) d_PD_grow_49 (by decide) (fun h1 => ?_) (fun h1 => ?_)
    · have hkk : k = pd_pf (S 4 cc + add) := by omega
      subst hkk
      refine lv_aload_n hx hb d_PD_grow_71 rfl (lv_at hl 2 rfl) ?_
      refine lv_iload_n hx hb d_PD_grow_72 rfl (lv_at hl 3 rfl) ?_
      refine pr_size hx hb hg hown hK hP hD hS (i := cc) (by omega) (hg (Cond.fieldLink "PageDrive" 67 "PageDrive$Content" "size" "I") (wG_m2 (List.mem_of_getElem? (i := 34) rfl))) d_PD_grow_73 (fun H locs hP hD hS => ?_)
      generalize eS11 : pd_st X 4 cc (S 4 cc + add) = S11 at hP hD
      refine lv_aload_n hx hb d_PD_grow_76 rfl (lv_at hl 2 rfl) ?_
      refine lv_iconst (v := nI 1) hx hb d_PD_grow_77 (by decide) ?_
      refine pr_there hx hb hg hown hK hP hD hS (i := cc) (by omega) (by omega) (hg (Cond.fieldLink "PageDrive" 91 "PageDrive$Content" "there" "Z") (wG_m2 (List.mem_of_getElem? (i := 36) rfl))) d_PD_grow_78 (fun H locs hP hD hS => ?_)
      generalize eS12 : pd_st S11 5 cc 1 = S12 at hP hD
      exact W.vret hx hb hret (fun t9 ht9 hW9 => ⟨⟨_, rfl, pd_gw_of hc hv hxc hgl (by rw [← eS12, ← eS11]), by rw [ht9]; exact hP, va_K.moved hW9.alike hK, hD⟩, hS.F ht9⟩) hS.2.2 d_PD_grow_81
    · have hX70 : 0 < X 7 0 := by have := hgl.2.2.2.1; omega
      have hXn : X 7 0 ≤ n := by have := hgl.2.2.2.1; omega
      obtain ⟨hpn, hgs⟩ := pd_gl_s hgl hk1 hX70
      refine lv_aload_n hx hb d_PD_grow_52 rfl (lv_at hl 2 rfl) ?_
      refine va_get (C := "PageDrive$Content") (T := F_CO) (N := 3) hx hb hg iw_CO hown hK hP (23 + cc) (pw_gC (i := cc) (by omega)) rfl 0 (by decide) (hg (Cond.fieldLink "PageDrive" 171 "PageDrive$Content" "row" "[I") (wG_m2 (List.mem_of_getElem? (i := 32) rfl))) (fun _ h9 => h9) rfl d_PD_grow_53 ?_
      refine lv_iload_n hx hb d_PD_grow_56 rfl (lv_at hl 0 rfl) ?_
      refine lv_aload_n hx hb d_PD_grow_57 rfl (lv_at hl 1 rfl) ?_
      refine va_get (C := "PageDrive") (T := F_PD) (N := 4) hx hb hg iw_PD hown hK hP (0) pw_g0 rfl 0 (by decide) (hg (Cond.fieldLink "PageDrive" 23 "PageDrive" "pool" "LPageDrive$Pool;") (wG_m3 (List.mem_of_getElem? (i := 17) rfl))) (fun _ h9 => h9) rfl d_PD_grow_58 ?_
      refine pw_calli (va_runV (As := []) (rest := [.int (nI k), .ref (ad (55 + cc))]) ⟨hx, hb, hml, hown, hg⟩ (c_PO_take l dC dI cI cB cE cL cZ n ad X hX70 hXn hn hpn H.size) (cwV 0 hg (gi_V (fun _ h => h) (wG_m8 (List.mem_of_getElem? (i := 19) rfl)) (wG_m8 (List.mem_of_getElem? (i := 14) rfl)) (wG_m8 (List.mem_of_getElem? (i := 15) rfl)) (wG_m1 (List.mem_of_getElem? (i := 2) rfl)) (wG_m8 (List.mem_of_getElem? (i := 16) rfl))) rfl rfl rfl (by decide +kernel) ⟨Nat.le_of_ble_eq_true rfl, Nat.le_of_ble_eq_true rfl⟩) (pw_pv hK hP hD (va_recv hK hP (ci := 1) (q0 := 1) rfl pw_g1) []) rfl rfl hl.1 rfl (lv_room (Nat.le_of_ble_eq_true rfl)) d_PD_grow_61 ⟨Nat.le_of_ble_eq_true rfl, Nat.le_of_ble_eq_true rfl⟩) hD hS hA (fun r4 X2 H locs hr hP hD hS => ?_)
      obtain ⟨rfl, eX2⟩ := hr
      refine pr_row hx hb hK hP hD hS (i := cc) (by omega) (by omega) (by omega) rfl d_PD_grow_64 (fun H locs hP hD hS => ?_)
      generalize eS13 : pd_st X2 (8 + cc) k (X 2 (X 7 0 - 1)) = S13 at hP hD
      refine lv_iinc (v := (nI (k + 1))) (lv' := [(3, .int (nI (k + 1))), (0, .ref (ad 0)), (1, .ref (ad (23 + cc))), (2, .int (nI (S 4 cc + add)))]) hx hb d_PD_grow_65 hl (k := 0) rfl (pq_inc _) (by decide) rfl (fun ls hl => ?_)
      refine lv_goto (tgt := 44) hx hb d_PD_grow_68 (by decide) ?_
      exact ih _ _ _ _ (by omega) ⟨_, k + 1, rfl, by omega, by omega, by rw [← eS13, eX2]; exact hgs, hP, hD, hS, hl⟩
set_option maxHeartbeats 4000000 in
set_option maxRecDepth 100000 in
/-- writeTape(content, fr, fed, times) -/
theorem c_PD_writeTape (l : Launch) (dC : Nat → ClassId) (dI : Nat → Nat → Nat) (cI cB cE cL cZ : ClassId) (n : Nat) (ad : Nat → Nat) (S : pdS) (cc fr fed tm : Nat) (hn : n ≤ 1024) (hc : cc < 32) (hfed : fed ≤ 4096) (htm : tm ≤ 16) (hz : fr + fed * tm ≤ 25600) (hrow : ∀ k, k < pd_pf (fr + fed * tm) → S (8 + cc) k < n) (sz : Nat) : CMv l (dC, dI) (pw_ty cI cB cE cL cZ) y_PD_writeTape w_PD_writeTape ({ frames := 1, cells := 0, slots := 0, locals := 21 }) [.ref (ad 0), .ref (ad (23 + cc)), .int (nI fr), .int (nI fed), .int (nI tm)] (pw n ad cI cB cE S) (pw n ad cI cB cE) sz (fun S2 => S2 = va_up S 0 (pd_wt (S 0) (S (8 + cc)) fr (fun i => S 3 (i % fed)) (fed * tm))) := by
  refine Met.ofW (cc := b_PD_writeTape) (maxL := 8) (ret := none) (by decide) rfl ?_
  intro p e s m args below meth c s₁ B hml hv
  obtain ⟨rfl, hsz, hP, hK, hD0⟩ := hv
  have hx := B.exec
  have hb := B.bytes
  have hret := B.returns
  have hts := atoms_spec (ws := w_PD_writeTape) B.pre
  have hg : ∀ w ∈ wsG, w.before _ s = true := fun w h => hts w (List.mem_cons_of_mem _ h)
  have hown : s.vm.findClass "PageDrive" = some m.cls := findClass_of_methodNamed B.named
  have hlocks := B.notSynchronized
  subst hsz
  have hD := hD0.self (sz := s.heap.size)
  generalize hAe : va_A (pw n ad cI cB cE S) s.heap.size = A at hD ⊢
  have hA : ∀ q : Nat, s.heap.size ≤ q → A q := fun q h => by rw [← hAe]; exact Or.inr h
  have hS : va_S A s.heap s.heap [] := va_S.rf
  have hl := lv_entry ([.ref (ad 0), .ref (ad (23 + cc)), .int (nI fr), .int (nI fed), .int (nI tm)]) (n := 8) (Nat.le_of_ble_eq_true rfl)
  rw [lg_entry_eq]
  generalize (lg_sl ([.ref (ad 0), .ref (ad (23 + cc)), .int (nI fr), .int (nI fed), .int (nI tm)]) ++ List.replicate (8 - (lg_sl ([.ref (ad 0), .ref (ad (23 + cc)), .int (nI fr), .int (nI fed), .int (nI tm)])).length) Slot.unset).toArray = ls at hl ⊢
  have hl : lv_has ls 8 [(0, .ref (ad 0)), (1, .ref (ad (23 + cc))), (2, .int (nI fr)), (3, .int (nI fed)), (4, .int (nI tm))] := hl
  refine lv_iload_n hx hb d_PD_writeTape_0 rfl (lv_at hl 2 rfl) ?_
  refine lv_istore (lv' := [(5, .int (nI fr)), (0, .ref (ad 0)), (1, .ref (ad (23 + cc))), (2, .int (nI fr)), (3, .int (nI fed)), (4, .int (nI tm))]) hx hb d_PD_writeTape_1 hl (by decide) rfl (fun ls hl => ?_)
  refine lv_iconst (v := nI 0) hx hb d_PD_writeTape_3 (by decide) ?_
  refine lv_istore (lv' := [(6, .int (nI 0)), (5, .int (nI fr)), (0, .ref (ad 0)), (1, .ref (ad (23 + cc))), (2, .int (nI fr)), (3, .int (nI fed)), (4, .int (nI tm))]) hx hb d_PD_writeTape_4 hl (by decide) rfl (fun ls hl => ?_)
  refine pw_loop (fun mm H locs ls => ∃ (X : pdS) (t d : Nat), mm = tm - t ∧ t ≤ tm ∧ d = fed * t ∧ X = va_up S 0 (pd_wt (S 0) (S (8 + cc)) fr (fun i => S 3 (i % fed)) (d)) ∧ va_P (dC, dI) pwCl (pw n ad cI cB cE X) H ∧ va_D A (pw n ad cI cB cE X) ∧ va_S A s.heap H locs ∧ lv_has ls 8 [(6, .int (nI t)), (5, .int (nI (fr + d))), (0, .ref (ad 0)), (1, .ref (ad (23 + cc))), (2, .int (nI fr)), (3, .int (nI fed)), (4, .int (nI tm))]) ?_ _ _ _ _ ⟨S, 0, 0, rfl, by omega, rfl, by
    funext b
    by_cases q : b = 0
    · subst q
      rw [va_up_self]
      rfl
    · rw [va_up_ne _ _ q], hP, hD, hS, hl⟩
  rintro mm H locs ls ⟨X, t, d, hmm, ht, hd, hX, hP, hD, hS, hl⟩ ih
  refine lv_iload hx hb d_PD_writeTape_6 (lv_at hl 0 rfl) ?_
  refine lv_iload hx hb d_PD_writeTape_8 (lv_at hl 6 rfl) ?_
  refine pq_icmp_ge (tgt := 58) hx hb (by omega) (by omega) d_PD_writeTape_10 (by decide) (fun h1 => ?_) (fun h1 => ?_)
  · have htt : t = tm := by omega
    subst htt
    subst hd
    exact W.vret hx hb hret (fun t9 ht9 hW9 => ⟨⟨_, rfl, hX, by rw [ht9]; exact hP, va_K.moved hW9.alike hK, hD⟩, hS.F ht9⟩) hS.2.2 d_PD_writeTape_58
  · have hstep : d + fed ≤ fed * tm := by rw [hd, ← Nat.mul_succ]; exact Nat.mul_le_mul_left fed h1
    refine lv_iconst (v := nI 0) hx hb d_PD_writeTape_13 (by decide) ?_
    refine lv_istore (lv' := [(7, .int (nI 0)), (6, .int (nI t)), (5, .int (nI (fr + d))), (0, .ref (ad 0)), (1, .ref (ad (23 + cc))), (2, .int (nI fr)), (3, .int (nI fed)), (4, .int (nI tm))]) hx hb d_PD_writeTape_14 hl (by decide) rfl (fun ls hl => ?_)
    refine pw_loop (fun mm H locs ls => ∃ (Y : pdS) (k : Nat), mm = fed - k ∧ k ≤ fed ∧ Y = va_up S 0 (pd_wt (S 0) (S (8 + cc)) fr (fun i => S 3 (i % fed)) (d + k)) ∧ va_P (dC, dI) pwCl (pw n ad cI cB cE Y) H ∧ va_D A (pw n ad cI cB cE Y) ∧ va_S A s.heap H locs ∧ lv_has ls 8 [(7, .int (nI k)), (6, .int (nI t)), (5, .int (nI (fr + (d + k)))), (0, .ref (ad 0)), (1, .ref (ad (23 + cc))), (2, .int (nI fr)), (3, .int (nI fed)), (4, .int (nI tm))]) ?_ _ _ _ _ ⟨X, 0, rfl, by omega, hX, hP, hD, hS, hl⟩
    rintro mm2 H locs ls ⟨Y, k, hmm2, hk, hY, hP, hD, hS, hl⟩ ih2
    have hY3 : Y 3 = S 3 := by rw [hY, va_up_ne _ _ (by decide)]
    have hYr : Y (8 + cc) = S (8 + cc) := by rw [hY, va_up_ne _ _ (by omega)]
    refine lv_iload hx hb d_PD_writeTape_16 (lv_at hl 0 rfl) ?_
    refine lv_iload_n hx hb d_PD_writeTape_18 rfl (lv_at hl 6 rfl) ?_
    refine pq_icmp_ge (tgt := 52) hx hb (by omega) (by omega) d_PD_writeTape_19 (by decide) (fun h2 => ?_) (fun h2 => ?_)
    · have hkk : k = fed := by omega
      subst hkk
      refine lv_iinc (v := (nI (t + 1))) (lv' := [(6, .int (nI (t + 1))), (7, .int (nI k)), (5, .int (nI (fr + (d + k)))), (0, .ref (ad 0)), (1, .ref (ad (23 + cc))), (2, .int (nI fr)), (3, .int (nI k)), (4, .int (nI tm))]) hx hb d_PD_writeTape_52 hl (k := 1) rfl (pq_inc _) (by decide) rfl (fun ls hl => ?_)
      refine lv_goto (tgt := 6) hx hb d_PD_writeTape_55 (by decide) ?_
      exact ih _ _ _ _ (by omega) ⟨Y, t + 1, d + k, rfl, by omega, by rw [Nat.mul_succ, hd], hY, hP, hD, hS, lv_sub hl [0, 2, 3, 4, 5, 6, 7] rfl⟩
    · have hi0 : fr + (d + k) < 25600 := by omega
      have hk0 : (fr + (d + k)) / 64 < pd_pf (fr + fed * tm) := by unfold pd_pf; omega
      have hpg := hrow _ hk0
      have hpgY : Y (8 + cc) ((fr + (d + k)) / 64) < n := by rw [hYr]; exact hpg
      refine lv_aload_n hx hb d_PD_writeTape_22 rfl (lv_at hl 3 rfl) ?_
      refine va_get (C := "PageDrive") (T := F_PD) (N := 4) hx hb hg iw_PD hown hK hP (0) pw_g0 rfl 0 (by decide) (hg (Cond.fieldLink "PageDrive" 23 "PageDrive" "pool" "LPageDrive$Pool;") (wG_m3 (List.mem_of_getElem? (i := 17) rfl))) (fun _ h9 => h9) rfl d_PD_writeTape_23 ?_
      refine va_get (C := "PageDrive$Pool") (T := F_PO) (N := 6) hx hb hg iw_PO hown hK hP (1) pw_g1 rfl 1 (by decide) (hg (Cond.fieldLink "PageDrive" 153 "PageDrive$Pool" "bytes" "[B") (wG_m1 (List.mem_of_getElem? (i := 39) rfl))) (fun _ h9 => h9) rfl d_PD_writeTape_26 ?_
      refine lv_aload_n hx hb d_PD_writeTape_29 rfl (lv_at hl 4 rfl) ?_
      refine lv_iload hx hb d_PD_writeTape_30 (lv_at hl 2 rfl) ?_
      refine pw_callip (va_runV (As := [.int (nI (fr + (d + k)))]) (rest := [.ref (ad 4)]) ⟨hx, hb, hml, hown, hg⟩ (c_CO_placeOf l dC dI cI cB cE cL cZ n ad Y cc (fr + (d + k)) hc hi0 (by omega) H.size) (cwV 1 hg (gi_V (fun _ h => h) (wG_m8 (List.mem_of_getElem? (i := 23) rfl)) (wG_m8 (List.mem_of_getElem? (i := 24) rfl)) (wG_m8 (List.mem_of_getElem? (i := 25) rfl)) (wG_m1 (List.mem_of_getElem? (i := 5) rfl)) (wG_m8 (List.mem_of_getElem? (i := 26) rfl))) rfl rfl rfl (by decide +kernel) ⟨Nat.le_of_ble_eq_true rfl, Nat.le_of_ble_eq_true rfl⟩) (pw_pv hK hP hD (va_recv hK hP (ci := 3) (q0 := 23 + cc) rfl (pw_gC (i := cc) (by omega))) [.int (nI (fr + (d + k)))]) rfl rfl hl.1 rfl (lv_room (Nat.le_of_ble_eq_true rfl)) d_PD_writeTape_32 ⟨Nat.le_of_ble_eq_true rfl, Nat.le_of_ble_eq_true rfl⟩) hD hS hA (fun r4 H locs hr hP hD hS => ?_)
      subst hr
      refine lv_aload_n hx hb d_PD_writeTape_35 rfl (lv_at hl 3 rfl) ?_
      refine va_get (C := "PageDrive") (T := F_PD) (N := 4) hx hb hg iw_PD hown hK hP (0) pw_g0 rfl 2 (by decide) (hg (Cond.fieldLink "PageDrive" 34 "PageDrive" "tape" "[B") (wG_m3 (List.mem_of_getElem? (i := 19) rfl))) (fun _ h9 => h9) rfl d_PD_writeTape_36 ?_
      refine lv_iload hx hb d_PD_writeTape_39 (lv_at hl 0 rfl) ?_
      refine pq_bald hx hb hK hP 3 1 pw_g3 rfl (by omega) (by omega) d_PD_writeTape_41 ?_
      refine pr_byte (v := Y 3 k) hx hb hK hP hD hS (by omega) (by omega) rfl d_PD_writeTape_42 (fun H locs hP hD hS => ?_)
      generalize eS1 : pd_st Y 0 (64 * Y (8 + cc) ((fr + (d + k)) / 64) + (fr + (d + k)) % 64) (Y 3 k) = S1 at hP hD
      have hmod : (d + k) % fed = k := by rw [hd, Nat.mul_add_mod, Nat.mod_eq_of_lt h2]
      have hY2 : S1 = va_up S 0 (pd_wt (S 0) (S (8 + cc)) fr (fun i => S 3 (i % fed)) (d + (k + 1))) := by
        rw [← eS1, hY3, hYr, hY, pd_st_up, show d + (k + 1) = (d + k) + 1 from rfl]
        simp only [pd_wt_s, hmod]
      refine lv_iinc (v := (nI ((fr + (d + k)) + 1))) (lv' := [(5, .int (nI ((fr + (d + k)) + 1))), (7, .int (nI k)), (6, .int (nI t)), (0, .ref (ad 0)), (1, .ref (ad (23 + cc))), (2, .int (nI fr)), (3, .int (nI fed)), (4, .int (nI tm))]) hx hb d_PD_writeTape_43 hl (k := 2) rfl (pq_inc _) (by decide) rfl (fun ls hl => ?_)
      refine lv_iinc (v := (nI (k + 1))) (lv' := [(7, .int (nI (k + 1))), (5, .int (nI ((fr + (d + k)) + 1))), (6, .int (nI t)), (0, .ref (ad 0)), (1, .ref (ad (23 + cc))), (2, .int (nI fr)), (3, .int (nI fed)), (4, .int (nI tm))]) hx hb d_PD_writeTape_46 hl (k := 1) rfl (pq_inc _) (by decide) rfl (fun ls hl => ?_)
      refine lv_goto (tgt := 16) hx hb d_PD_writeTape_49 (by decide) ?_
      exact ih2 _ _ _ _ (by omega) ⟨_, k + 1, rfl, by omega, hY2, hP, hD, hS, lv_sub hl [0, 2, 1, 3, 4, 5, 6, 7] rfl⟩
end
section
/-! THE CLASS, 6: feed, count, byteAt .. -/
set_option maxHeartbeats 4000000 in
set_option maxRecDepth 100000 in
/-- feed -/
theorem c_PD_feed (l : Launch) (dC : Nat → ClassId) (dI : Nat → Nat → Nat) (cI cB cE cL cZ : ClassId) (hst : l.stackTraces = false) (n : Nat) (ad : Nat → Nat) (S : pdS) (x : Int64) (k : Int32) (h72 : S 7 2 ≤ 4096) (sz : Nat) : CXi l (dC, dI) (pw_ty cI cB cE cL cZ) y_PD_feed w_PD_feed ({ frames := 6, cells := 1, slots := 6, locals := 82 }) [.ref (ad 0), .long x, .int k] (pw n ad cI cB cE S) (pw n ad cI cB cE) sz (fun r S2 => ∃ j, 1 ≤ j ∧ j ≤ 8 ∧ k = nI j ∧ S 7 2 + j ≤ 4096 ∧ r = nI (S 7 2 + j) ∧ S2 = pd_fd S x j) (fun E S2 => (E = "java/lang/IllegalArgumentException" ∧ (∀ j, 1 ≤ j → j ≤ 8 → k ≠ nI j) ∧ S2 = S) ∨ (E = "java/lang/IllegalStateException" ∧ ∃ j, 1 ≤ j ∧ j ≤ 8 ∧ k = nI j ∧ 4096 < S 7 2 + j ∧ S2 = S)) := by
  refine vx_ofW (cc := b_PD_feed) (maxL := 5) (ret := (some .int)) (by decide) rfl ?_
  intro p e s m args below meth c s₁ B hml htab hv
  obtain ⟨rfl, ⟨hsz, hP, hK, hD0⟩, hKK, hZ⟩ := hv
  have hx := B.exec
  have hb := B.bytes
  have hret := B.returns
  have hts := atoms_spec (ws := w_PD_feed) B.pre
  have hg : ∀ w ∈ wsG, w.before _ s = true := fun w h => hts w (List.mem_cons_of_mem _ h)
  have hown : s.vm.findClass "PageDrive" = some m.cls := findClass_of_methodNamed B.named
  have hlocks := B.notSynchronized
  subst hsz
  have hD := hD0.self (sz := s.heap.size)
  generalize hAe : va_A (pw n ad cI cB cE S) s.heap.size = A at hD hZ ⊢
  have hA : ∀ q : Nat, s.heap.size ≤ q → A q := fun q h => by rw [← hAe]; exact Or.inr h
  have hS : va_S A s.heap s.heap [] := va_S.rf
  have hl := lv_entry ([.ref (ad 0), .long x, .int k]) (n := 5) (Nat.le_of_ble_eq_true rfl)
  rw [lg_entry_eq]
  generalize (lg_sl ([.ref (ad 0), .long x, .int k]) ++ List.replicate (5 - (lg_sl ([.ref (ad 0), .long x, .int k])).length) Slot.unset).toArray = ls at hl ⊢
  have hl : lv_has ls 5 [(0, .ref (ad 0)), (1, .long x), (3, .int k)] := hl
  refine lv_iload_n hx hb d_PD_feed_0 rfl (lv_at hl 2 rfl) ?_
  refine lv_iconst (v := nI 1) hx hb d_PD_feed_1 (by decide) ?_
  refine lv_icmp_lt (tgt := 11) hx hb d_PD_feed_2 (by decide) (fun h1 => ?_) (fun h1 => ?_)
  · obtain ⟨sa, hstr⟩ := hKK.2.1 (44, "not 1 to 8 bytes") (by decide +kernel)
    exact vx_throwS hx hb hst hown (cls := "java/lang/IllegalArgumentException") (names := pgNm) xf_46 xn_nm (hg (Cond.classLink "PageDrive" 42 "java/lang/IllegalArgumentException") (wG_m5 (List.mem_of_getElem? (i := 5) rfl))) (hg (Cond.initialized "java/lang/IllegalArgumentException") (wG_m1 (List.mem_of_getElem? (i := 10) rfl))) hstr (pg_hat xa_46 hg hKK.1) xo_46 hZ.1 hZ.2 hS (hl.1.trans hml.symm) d_PD_feed_11 d_PD_feed_14 d_PD_feed_15 d_PD_feed_17 d_PD_feed_20 (fun x h => (htab x h).elim) (Nat.le_of_ble_eq_true rfl) (Nat.le_of_ble_eq_true rfl) (Nat.le_of_ble_eq_true rfl) (Nat.le_of_ble_eq_true rfl) hlocks (fun t9 hy1 hy2 hy3 => ⟨("java/lang/IllegalArgumentException", S), Or.inl ⟨rfl, fun j h1j h2j => pd_below h1 j h1j (by omega), rfl⟩, ⟨rfl, (px_end (Wf := fun S => pw n ad cI cB cE S) hK hP hD hS t9 hy1 hy2 hy3).1⟩, (px_end (Wf := fun S => pw n ad cI cB cE S) hK hP hD hS t9 hy1 hy2 hy3).2⟩) hS.2.2 (Nat.le_of_ble_eq_true rfl) (Nat.le_of_ble_eq_true rfl)
  · refine lv_iload_n hx hb d_PD_feed_5 rfl (lv_at hl 2 rfl) ?_
    refine lv_bipush (v := nI 8) hx hb d_PD_feed_6 (by decide) ?_
    refine lv_icmp_le (tgt := 21) hx hb d_PD_feed_8 (by decide) (fun h2 => ?_) (fun h2 => ?_)
    · obtain ⟨j, hj1, hj2, rfl⟩ := pd_rng (a := 1) (b := 8) (by decide) (by decide) h1 (fun q => Int32.lt_irrefl (Int32.lt_of_le_of_lt h2 q))
      refine lv_aload_n hx hb d_PD_feed_21 rfl (lv_at hl 0 rfl) ?_
      refine va_get (C := "PageDrive") (T := F_PD) (N := 4) hx hb hg iw_PD hown hK hP (0) pw_g0 rfl 3 (by decide) (hg (Cond.fieldLink "PageDrive" 38 "PageDrive" "taped" "I") (wG_m3 (List.mem_of_getElem? (i := 20) rfl))) (fun _ h9 => h9) rfl d_PD_feed_22 ?_
      refine lv_iload_n hx hb d_PD_feed_25 rfl (lv_at hl 2 rfl) ?_
      refine pq_iadd hx hb d_PD_feed_26 ?_
      refine lv_sipush (v := nI 4096) hx hb d_PD_feed_27 (by decide) ?_
      refine pq_icmp_le (tgt := 43) hx hb (by omega) (by omega) d_PD_feed_30 (by decide) (fun h3 => ?_) (fun h3 => ?_)
      · refine lv_iconst (v := nI 0) hx hb d_PD_feed_43 (by decide) ?_
        refine lv_istore (lv' := [(4, .int (nI 0)), (0, .ref (ad 0)), (1, .long x), (3, .int (nI j))]) hx hb d_PD_feed_44 hl (by decide) rfl (fun ls hl => ?_)
        refine pw_loop (fun mm H locs ls => ∃ (T : pdS) (i : Nat), mm = j - i ∧ i ≤ j ∧ T = pd_tp S x (S 7 2) i ∧ va_P (dC, dI) pwCl (pw n ad cI cB cE T) H ∧ va_D A (pw n ad cI cB cE T) ∧ va_S A s.heap H locs ∧ lv_has ls 5 [(4, .int (nI i)), (0, .ref (ad 0)), (1, .long x), (3, .int (nI j))]) ?_ _ _ _ _ ⟨S, 0, rfl, by omega, rfl, hP, hD, hS, hl⟩
        rintro mm H locs ls ⟨T, i, hmm, hi, hT, hP, hD, hS, hl⟩ ih
        have hT7 : T 7 = S 7 := by rw [hT, pd_tp_bk (by decide)]
        have hT72 : T 7 2 = S 7 2 := by rw [hT7]
        refine lv_iload hx hb d_PD_feed_46 (lv_at hl 0 rfl) ?_
        refine lv_iload_n hx hb d_PD_feed_48 rfl (lv_at hl 3 rfl) ?_
        refine pq_icmp_ge (tgt := 79) hx hb (by omega) (by omega) d_PD_feed_49 (by decide) (fun h4 => ?_) (fun h4 => ?_)
        · have hij : i = j := by omega
          subst hij
          refine lv_aload_n hx hb d_PD_feed_79 rfl (lv_at hl 1 rfl) ?_
          refine lv_dup hx hb d_PD_feed_80 rfl ?_
          refine va_get (C := "PageDrive") (T := F_PD) (N := 4) hx hb hg iw_PD hown hK hP (0) pw_g0 rfl 3 (by decide) (hg (Cond.fieldLink "PageDrive" 38 "PageDrive" "taped" "I") (wG_m3 (List.mem_of_getElem? (i := 20) rfl))) (fun _ h9 => h9) rfl d_PD_feed_81 ?_
          refine lv_iload_n hx hb d_PD_feed_84 rfl (lv_at hl 3 rfl) ?_
          refine pq_iadd hx hb d_PD_feed_85 ?_
          refine pr_taped hx hb hg hown hK hP hD hS (hg (Cond.fieldLink "PageDrive" 38 "PageDrive" "taped" "I") (wG_m3 (List.mem_of_getElem? (i := 20) rfl))) d_PD_feed_86 (fun H locs hP hD hS => ?_)
          generalize eS1 : pd_st T 7 2 ((T 7 2) + i) = S1 at hP hD
          have h1v : S1 7 2 = S 7 2 + i := by rw [← eS1, pd_self, hT72]
          refine lv_aload_n hx hb d_PD_feed_89 rfl (lv_at hl 1 rfl) ?_
          refine va_get (C := "PageDrive") (T := F_PD) (N := 4) hx hb hg iw_PD hown hK hP (0) pw_g0 rfl 3 (by decide) (hg (Cond.fieldLink "PageDrive" 38 "PageDrive" "taped" "I") (wG_m3 (List.mem_of_getElem? (i := 20) rfl))) (fun _ h9 => h9) rfl d_PD_feed_90 ?_
          refine pq_top (y := nI (S 7 2 + i)) (by rw [h1v]) ?_
          refine W.widen (k := 1) (n := 6) (by omega) (by omega) ?_
          exact vx_ret (W.iret (v := (nI (S 7 2 + i))) hx hb hret (fun t9 ht9 hW9 => ⟨⟨_, _, rfl, ⟨i, hj1, hj2, rfl, h3, rfl, by rw [← eS1, hT72, hT]; rfl⟩, by rw [ht9]; exact hP, va_K.moved hW9.alike hK, hD⟩, hS.F ht9⟩) hS.2.2 d_PD_feed_93)
        · refine lv_aload_n hx hb d_PD_feed_52 rfl (lv_at hl 1 rfl) ?_
          refine va_get (C := "PageDrive") (T := F_PD) (N := 4) hx hb hg iw_PD hown hK hP (0) pw_g0 rfl 2 (by decide) (hg (Cond.fieldLink "PageDrive" 34 "PageDrive" "tape" "[B") (wG_m3 (List.mem_of_getElem? (i := 19) rfl))) (fun _ h9 => h9) rfl d_PD_feed_53 ?_
          refine lv_aload_n hx hb d_PD_feed_56 rfl (lv_at hl 1 rfl) ?_
          refine va_get (C := "PageDrive") (T := F_PD) (N := 4) hx hb hg iw_PD hown hK hP (0) pw_g0 rfl 3 (by decide) (hg (Cond.fieldLink "PageDrive" 38 "PageDrive" "taped" "I") (wG_m3 (List.mem_of_getElem? (i := 20) rfl))) (fun _ h9 => h9) rfl d_PD_feed_57 ?_
          refine lv_iload hx hb d_PD_feed_60 (lv_at hl 0 rfl) ?_
          refine pq_iadd hx hb d_PD_feed_62 ?_
          refine lv_lload_n hx hb d_PD_feed_63 rfl (lv_at hl 2 rfl) ?_
          refine lv_bipush (v := nI 8) hx hb d_PD_feed_64 (by decide) ?_
          refine lv_iload hx hb d_PD_feed_66 (lv_at hl 0 rfl) ?_
          refine pq_imul hx hb d_PD_feed_68 ?_
          refine lv_lushr hx hb d_PD_feed_69 rfl ?_
          refine lv_l2i hx hb d_PD_feed_70 rfl ?_
          refine lv_i2b hx hb d_PD_feed_71 rfl ?_
          refine pq_top (y := sb_b (pd_bv x i)) (pd_rb x (by omega)) ?_
          refine pr_tape (v := pd_bv x i) hx hb hK hP hD hS (by omega) (by omega) rfl d_PD_feed_72 (fun H locs hP hD hS => ?_)
          generalize eS2 : pd_st T 3 ((T 7 2) + i) (pd_bv x i) = S2 at hP hD
          refine lv_iinc (v := (nI (i + 1))) (lv' := [(4, .int (nI (i + 1))), (0, .ref (ad 0)), (1, .long x), (3, .int (nI j))]) hx hb d_PD_feed_73 hl (k := 0) rfl (pq_inc _) (by decide) rfl (fun ls hl => ?_)
          refine lv_goto (tgt := 46) hx hb d_PD_feed_76 (by decide) ?_
          exact ih _ _ _ _ (by omega) ⟨_, i + 1, rfl, by omega, by rw [← eS2, hT72, hT]; rfl, hP, hD, hS, hl⟩
      · obtain ⟨sa, hstr⟩ := hKK.2.1 (51, "the tape has no place for these bytes") (by decide +kernel)
        exact vx_throwS hx hb hst hown (cls := "java/lang/IllegalStateException") (names := pgNm) xf_53 xn_nm (hg (Cond.classLink "PageDrive" 49 "java/lang/IllegalStateException") (wG_m6 (List.mem_of_getElem? (i := 22) rfl))) (hg (Cond.initialized "java/lang/IllegalStateException") (wG_m1 (List.mem_of_getElem? (i := 11) rfl))) hstr (pg_hat xa_53 hg hKK.1) xo_53 hZ.1 hZ.2 hS (hl.1.trans hml.symm) d_PD_feed_33 d_PD_feed_36 d_PD_feed_37 d_PD_feed_39 d_PD_feed_42 (fun x h => (htab x h).elim) (Nat.le_of_ble_eq_true rfl) (Nat.le_of_ble_eq_true rfl) (Nat.le_of_ble_eq_true rfl) (Nat.le_of_ble_eq_true rfl) hlocks (fun t9 hy1 hy2 hy3 => ⟨("java/lang/IllegalStateException", S), Or.inr ⟨rfl, j, hj1, hj2, rfl, by omega, rfl⟩, ⟨rfl, (px_end (Wf := fun S => pw n ad cI cB cE S) hK hP hD hS t9 hy1 hy2 hy3).1⟩, (px_end (Wf := fun S => pw n ad cI cB cE S) hK hP hD hS t9 hy1 hy2 hy3).2⟩) hS.2.2 (Nat.le_of_ble_eq_true rfl) (Nat.le_of_ble_eq_true rfl)
    · obtain ⟨sa, hstr⟩ := hKK.2.1 (44, "not 1 to 8 bytes") (by decide +kernel)
      exact vx_throwS hx hb hst hown (cls := "java/lang/IllegalArgumentException") (names := pgNm) xf_46 xn_nm (hg (Cond.classLink "PageDrive" 42 "java/lang/IllegalArgumentException") (wG_m5 (List.mem_of_getElem? (i := 5) rfl))) (hg (Cond.initialized "java/lang/IllegalArgumentException") (wG_m1 (List.mem_of_getElem? (i := 10) rfl))) hstr (pg_hat xa_46 hg hKK.1) xo_46 hZ.1 hZ.2 hS (hl.1.trans hml.symm) d_PD_feed_11 d_PD_feed_14 d_PD_feed_15 d_PD_feed_17 d_PD_feed_20 (fun x h => (htab x h).elim) (Nat.le_of_ble_eq_true rfl) (Nat.le_of_ble_eq_true rfl) (Nat.le_of_ble_eq_true rfl) (Nat.le_of_ble_eq_true rfl) hlocks (fun t9 hy1 hy2 hy3 => ⟨("java/lang/IllegalArgumentException", S), Or.inl ⟨rfl, fun j h1j h2j => pd_above (b := 8) (by decide) (Int32.not_le.mp h2) j h2j, rfl⟩, ⟨rfl, (px_end (Wf := fun S => pw n ad cI cB cE S) hK hP hD hS t9 hy1 hy2 hy3).1⟩, (px_end (Wf := fun S => pw n ad cI cB cE S) hK hP hD hS t9 hy1 hy2 hy3).2⟩) hS.2.2 (Nat.le_of_ble_eq_true rfl) (Nat.le_of_ble_eq_true rfl)
end
section
/-! THE CLASS, 7: append, cut, remove, twin, sync, crash -/
set_option maxHeartbeats 4000000 in
set_option maxRecDepth 100000 in
/-- append -/
theorem c_PD_append (l : Launch) (dC : Nat → ClassId) (dI : Nat → Nat → Nat) (cI cB cE cL cZ : ClassId) (hst : l.stackTraces = false) (n : Nat) (ad : Nat → Nat) (S : pdS) (f t : Int32) (hn : n ≤ 1024) (hv : pd_v n S) (ho : pd_ok n S (pd_ct S)) (sz : Nat) : CXi l (dC, dI) (pw_ty cI cB cE cL cZ) y_PD_append w_PD_append ({ frames := 6, cells := 1, slots := 6, locals := 105 }) [.ref (ad 0), .int f, .int t] (pw n ad cI cB cE S) (pw n ad cI cB cE) sz (fun r S2 => ∃ i j, i < 16 ∧ f = nI i ∧ 1 ≤ j ∧ j ≤ 16 ∧ t = nI j ∧ pd_rm S (2 * i) (S 7 2 * j) ∧ r = nI (S 4 (2 * i) + S 7 2 * j) ∧ pd_ap n S S2 (2 * i) (S 7 2 * j) (fun q => S 3 (q % S 7 2)) ∧ pd_ok n S2 (pd_ct S2)) (fun E S2 => (E = "java/lang/IndexOutOfBoundsException" ∧ (pd_nof f ∨ ∀ j, 1 ≤ j → j ≤ 16 → t ≠ nI j) ∧ S2 = S) ∨ (E = "java/lang/UnsupportedOperationException" ∧ ∃ i j, i < 16 ∧ f = nI i ∧ 1 ≤ j ∧ j ≤ 16 ∧ t = nI j ∧ ¬ pd_rm S (2 * i) (S 7 2 * j) ∧ S2 = pd_st S 7 2 0)) := by
  refine vx_ofW (cc := b_PD_append) (maxL := 7) (ret := (some .int)) (by decide) rfl ?_
  intro p e s m args below meth c s₁ B hml htab hv
  obtain ⟨rfl, ⟨hsz, hP, hK, hD0⟩, hKK, hZ⟩ := hv
  have hx := B.exec
  have hb := B.bytes
  have hret := B.returns
  have hts := atoms_spec (ws := w_PD_append) B.pre
  have hg : ∀ w ∈ wsG, w.before _ s = true := fun w h => hts w (List.mem_cons_of_mem _ h)
  have hown : s.vm.findClass "PageDrive" = some m.cls := findClass_of_methodNamed B.named
  have hlocks := B.notSynchronized
  subst hsz
  have hD := hD0.self (sz := s.heap.size)
  generalize hAe : va_A (pw n ad cI cB cE S) s.heap.size = A at hD hZ ⊢
  have hA : ∀ q : Nat, s.heap.size ≤ q → A q := fun q h => by rw [← hAe]; exact Or.inr h
  have hS : va_S A s.heap s.heap [] := va_S.rf
  have hl := lv_entry ([.ref (ad 0), .int f, .int t]) (n := 7) (Nat.le_of_ble_eq_true rfl)
  rw [lg_entry_eq]
  generalize (lg_sl ([.ref (ad 0), .int f, .int t]) ++ List.replicate (7 - (lg_sl ([.ref (ad 0), .int f, .int t])).length) Slot.unset).toArray = ls at hl ⊢
  have hl : lv_has ls 7 [(0, .ref (ad 0)), (1, .int f), (2, .int t)] := hl
  have h72 := hv.2.2.2.1
  refine lv_iload_n hx hb d_PD_append_0 rfl (lv_at hl 1 rfl) ?_
  refine pw_callip (va_runS (As := [.int f]) (rest := []) ⟨hx, hb, hml, hown, hg⟩ (c_PD_isFile l dC dI cI cB cE cL cZ (pw n ad cI cB cE S) f s.heap.size) (cwS 1 hg (gi_S (fun _ h => h) (wG_m7 (List.mem_of_getElem? (i := 5) rfl)) (wG_m7 (List.mem_of_getElem? (i := 6) rfl)) (wG_m1 (List.mem_of_getElem? (i := 1) rfl)) (wG_m7 (List.mem_of_getElem? (i := 7) rfl))) rfl rfl rfl (by decide +kernel) ⟨Nat.le_of_ble_eq_true rfl, Nat.le_of_ble_eq_true rfl⟩) (pw_ps hK hP hD [.int f]) rfl rfl hl.1 rfl (lv_room (Nat.le_of_ble_eq_true rfl)) d_PD_append_1 ⟨Nat.le_of_ble_eq_true rfl, Nat.le_of_ble_eq_true rfl⟩) hD hS hA (fun r1 H locs hr hP hD hS => ?_)
  rcases hr with ⟨i, hi, rfl, rfl⟩ | ⟨hno, rfl⟩
  · refine pq_if_eq (tgt := 18) hx hb (by omega) d_PD_append_4 (by decide) (fun h9 => absurd h9 (by omega)) (fun _ => ?_)
    refine lv_iload_n hx hb d_PD_append_7 rfl (lv_at hl 2 rfl) ?_
    refine lv_iconst (v := nI 1) hx hb d_PD_append_8 (by decide) ?_
    refine lv_icmp_lt (tgt := 18) hx hb d_PD_append_9 (by decide) (fun h1 => ?_) (fun h1 => ?_)
    · obtain ⟨sa, hstr⟩ := hKK.2.1 (60, "no such file, or not 1 to 16 times") (by decide +kernel)
      exact vx_throwS hx hb hst hown (cls := "java/lang/IndexOutOfBoundsException") (names := pgNm) xf_62 xn_nm (hg (Cond.classLink "PageDrive" 58 "java/lang/IndexOutOfBoundsException") (wG_m7 (List.mem_of_getElem? (i := 8) rfl))) (hg (Cond.initialized "java/lang/IndexOutOfBoundsException") (wG_m1 (List.mem_of_getElem? (i := 12) rfl))) hstr (pg_hat xa_62 hg hKK.1) xo_62 hZ.1 hZ.2 hS (hl.1.trans hml.symm) d_PD_append_18 d_PD_append_21 d_PD_append_22 d_PD_append_24 d_PD_append_27 (fun x h => (htab x h).elim) (Nat.le_of_ble_eq_true rfl) (Nat.le_of_ble_eq_true rfl) (Nat.le_of_ble_eq_true rfl) (Nat.le_of_ble_eq_true rfl) hlocks (fun t9 hy1 hy2 hy3 => ⟨("java/lang/IndexOutOfBoundsException", S), Or.inl ⟨rfl, Or.inr (fun j h1j h2j => pd_below h1 j h1j (by omega)), rfl⟩, ⟨rfl, (px_end (Wf := fun S => pw n ad cI cB cE S) hK hP hD hS t9 hy1 hy2 hy3).1⟩, (px_end (Wf := fun S => pw n ad cI cB cE S) hK hP hD hS t9 hy1 hy2 hy3).2⟩) hS.2.2 (Nat.le_of_ble_eq_true rfl) (Nat.le_of_ble_eq_true rfl)
    · refine lv_iload_n hx hb d_PD_append_12 rfl (lv_at hl 2 rfl) ?_
      refine lv_bipush (v := nI 16) hx hb d_PD_append_13 (by decide) ?_
      refine lv_icmp_le (tgt := 28) hx hb d_PD_append_15 (by decide) (fun h2 => ?_) (fun h2 => ?_)
      · obtain ⟨j, hj1, hj2, rfl⟩ := pd_rng (a := 1) (b := 16) (by decide) (by decide) h1 (fun q => Int32.lt_irrefl (Int32.lt_of_le_of_lt h2 q))
        have hs4 := (hv.1 (2 * i) (by omega)).1
        have hmul : S 7 2 * j ≤ 4096 * 16 := Nat.mul_le_mul h72 hj2
        refine lv_aload_n hx hb d_PD_append_28 rfl (lv_at hl 0 rfl) ?_
        refine va_get (C := "PageDrive") (T := F_PD) (N := 4) hx hb hg iw_PD hown hK hP (0) pw_g0 rfl 3 (by decide) (hg (Cond.fieldLink "PageDrive" 38 "PageDrive" "taped" "I") (wG_m3 (List.mem_of_getElem? (i := 20) rfl))) (fun _ h9 => h9) rfl d_PD_append_29 ?_
        refine lv_istore_n (lv' := [(3, .int (nI (S 7 2))), (0, .ref (ad 0)), (1, .int (nI i)), (2, .int (nI j))]) hx hb d_PD_append_32 rfl hl (by decide) rfl (fun ls hl => ?_)
        refine lv_aload_n hx hb d_PD_append_33 rfl (lv_at hl 1 rfl) ?_
        refine lv_iconst (v := nI 0) hx hb d_PD_append_34 (by decide) ?_
        refine pr_taped hx hb hg hown hK hP hD hS (hg (Cond.fieldLink "PageDrive" 38 "PageDrive" "taped" "I") (wG_m3 (List.mem_of_getElem? (i := 20) rfl))) d_PD_append_35 (fun H locs hP hD hS => ?_)
        generalize eS2 : pd_st S 7 2 0 = S2 at hP hD
        have hb1 : ∀ b, b ≠ 7 → S2 b = S b := fun b hb => by rw [← eS2, pd_bk _ hb]
        have h171 : S2 7 1 = S 7 1 := by rw [← eS2, pd_ne _ (by decide)]
        have h170 : S2 7 0 = S 7 0 := by rw [← eS2, pd_ne _ (by decide)]
        have h172 : S2 7 2 = 0 := by rw [← eS2, pd_self]
        have h14 : S2 4 (2 * i) = S 4 (2 * i) := by rw [hb1 4 (by decide)]
        have hct1 : ∀ q, pd_ct S2 q = pd_ct S q := fun q => pd_ct_congr (hb1 4 (by decide)) (fun d _ k _ => by rw [hb1 (8 + d) (by omega)]) q
        have hv1 : pd_v n S2 := by
          obtain ⟨v1, v2, v3, v4, v5, v6⟩ := hv
          refine ⟨fun d hd => by rw [hb1 4 (by decide), hb1 5 (by decide)]; exact v1 d hd, fun d k hd hk => ?_, fun a d k z ha hd hk hz => ?_, by omega, by rw [hb1 3 (by decide)]; exact v5, by rw [hb1 0 (by decide)]; exact v6⟩
          · rw [hb1 4 (by decide)] at hk
            rw [hb1 (8 + d) (by omega)]
            exact v2 d k hd hk
          · rw [hb1 4 (by decide)] at hk hz
            rw [hb1 (8 + a) (by omega), hb1 (8 + d) (by omega)]
            exact v3 a d k z ha hd hk hz
        have ho1 : pd_ok n S2 (pd_ct S2) := pd_ok_congr (pd_ok_eqv ho (hb1 1 (by decide)) (hb1 2 (by decide)) h170) (fun q _ => (hct1 q).symm)
        have hcp1 : pd_cp S2 (2 * i) (S 7 2 * j) ↔ pd_cp S (2 * i) (S 7 2 * j) := by
          unfold pd_cp
          rw [hb1 4 (by decide), hb1 (8 + 2 * i) (by omega), hct1]
        have hrm1 : pd_rm S2 (2 * i) (S 7 2 * j) ↔ pd_rm S (2 * i) (S 7 2 * j) := by
          unfold pd_rm
          rw [hcp1, h14, h170]
        refine lv_aload_n hx hb d_PD_append_38 rfl (lv_at hl 1 rfl) ?_
        refine va_get (C := "PageDrive") (T := F_PD) (N := 4) hx hb hg iw_PD hown hK hP (0) pw_g0 rfl 1 (by decide) (hg (Cond.fieldLink "PageDrive" 29 "PageDrive" "entries" "[LPageDrive$Entry;") (wG_m3 (List.mem_of_getElem? (i := 18) rfl))) (fun _ h9 => h9) rfl d_PD_append_39 ?_
        refine lv_iload_n hx hb d_PD_append_42 rfl (lv_at hl 2 rfl) ?_
        refine pr_ent hx hb hK hP (i := i) (by omega) rfl d_PD_append_43 ?_
        refine va_get (C := "PageDrive$Entry") (T := F_EN) (N := 3) hx hb hg iw_EN hown hK hP (7 + i) (pw_gE (i := i) (by omega)) rfl 0 (by decide) (hg (Cond.fieldLink "PageDrive" 63 "PageDrive$Entry" "now" "LPageDrive$Content;") (wG_m3 (List.mem_of_getElem? (i := 5) rfl))) (fun _ h9 => h9) rfl d_PD_append_44 ?_
        refine lv_astore (lv' := [(4, .ref (ad (23 + 2 * i))), (3, .int (nI (S 7 2))), (0, .ref (ad 0)), (1, .int (nI i)), (2, .int (nI j))]) hx hb d_PD_append_47 hl (by decide) rfl (fun ls hl => ?_)
        refine lv_aload hx hb d_PD_append_49 (lv_at hl 0 rfl) ?_
        refine va_get (C := "PageDrive$Content") (T := F_CO) (N := 3) hx hb hg iw_CO hown hK hP (23 + (2 * i)) (pw_gC (i := 2 * i) (by omega)) rfl 1 (by decide) (hg (Cond.fieldLink "PageDrive" 67 "PageDrive$Content" "size" "I") (wG_m2 (List.mem_of_getElem? (i := 34) rfl))) (fun _ h9 => h9) rfl d_PD_append_51 ?_
        refine lv_istore (lv' := [(5, .int (nI (S2 4 (2 * i)))), (4, .ref (ad (23 + 2 * i))), (3, .int (nI (S 7 2))), (0, .ref (ad 0)), (1, .int (nI i)), (2, .int (nI j))]) hx hb d_PD_append_54 hl (by decide) rfl (fun ls hl => ?_)
        refine lv_iload hx hb d_PD_append_56 (lv_at hl 0 rfl) ?_
        refine lv_iload_n hx hb d_PD_append_58 rfl (lv_at hl 2 rfl) ?_
        refine lv_iload_n hx hb d_PD_append_59 rfl (lv_at hl 5 rfl) ?_
        refine pq_imul hx hb d_PD_append_60 ?_
        refine pq_iadd hx hb d_PD_append_61 ?_
        refine lv_istore (lv' := [(6, .int (nI ((S2 4 (2 * i)) + ((S 7 2) * j)))), (5, .int (nI (S2 4 (2 * i)))), (4, .ref (ad (23 + 2 * i))), (3, .int (nI (S 7 2))), (0, .ref (ad 0)), (1, .int (nI i)), (2, .int (nI j))]) hx hb d_PD_append_62 hl (by decide) rfl (fun ls hl => ?_)
        refine lv_aload_n hx hb d_PD_append_64 rfl (lv_at hl 4 rfl) ?_
        refine lv_aload hx hb d_PD_append_65 (lv_at hl 2 rfl) ?_
        refine lv_iload hx hb d_PD_append_67 (lv_at hl 0 rfl) ?_
        refine pw_callip (va_runV (As := [.ref (ad (23 + 2 * i)), .int (nI ((S2 4 (2 * i)) + ((S 7 2) * j)))]) (rest := []) ⟨hx, hb, hml, hown, hg⟩ (c_PD_hasRoom l dC dI cI cB cE cL cZ n ad S2 (2 * i) (S 7 2 * j) hn hv1 ho1 (by omega) (by omega) H.size) (cwV 2 hg (gi_V (fun _ h => h) (wG_m7 (List.mem_of_getElem? (i := 22) rfl)) (wG_m7 (List.mem_of_getElem? (i := 23) rfl)) (wG_m14 (List.mem_of_getElem? (i := 6) rfl)) (wG_m1 (List.mem_of_getElem? (i := 1) rfl)) (wG_m7 (List.mem_of_getElem? (i := 24) rfl))) rfl rfl rfl (by decide +kernel) ⟨Nat.le_of_ble_eq_true rfl, Nat.le_of_ble_eq_true rfl⟩) (pw_pv hK hP hD (va_recv hK hP (ci := 0) (q0 := 0) rfl pw_g0) [.ref (ad (23 + 2 * i)), .int (nI ((S2 4 (2 * i)) + ((S 7 2) * j)))]) rfl rfl hl.1 rfl (lv_room (Nat.le_of_ble_eq_true rfl)) d_PD_append_69 ⟨Nat.le_of_ble_eq_true rfl, Nat.le_of_ble_eq_true rfl⟩) hD hS hA (fun r2 H locs hr hP hD hS => ?_)
        rcases hr with ⟨h3, rfl⟩ | ⟨h3, rfl⟩
        · refine pq_if_ne (tgt := 85) hx hb (by omega) d_PD_append_72 (by decide) (fun _ => ?_) (fun h9 => absurd h9 (by omega))
          have h400 := h3.1
          have hz : S 4 (2 * i) + S 7 2 * j ≤ 25600 := by unfold pd_pf at h400; omega
          refine lv_aload_n hx hb d_PD_append_85 rfl (lv_at hl 4 rfl) ?_
          refine lv_aload hx hb d_PD_append_86 (lv_at hl 2 rfl) ?_
          refine lv_iload hx hb d_PD_append_88 (lv_at hl 0 rfl) ?_
          refine pw_callv (va_runV (As := [.ref (ad (23 + 2 * i)), .int (nI ((S2 4 (2 * i)) + ((S 7 2) * j)))]) (rest := []) ⟨hx, hb, hml, hown, hg⟩ (c_PD_grow l dC dI cI cB cE cL cZ n ad S2 (2 * i) (S 7 2 * j) hn hv1 ho1 (by omega) h3 H.size) (cwV 2 hg (gi_V (fun _ h => h) (wG_m8 (List.mem_of_getElem? (i := 6) rfl)) (wG_m8 (List.mem_of_getElem? (i := 7) rfl)) (wG_m14 (List.mem_of_getElem? (i := 8) rfl)) (wG_m1 (List.mem_of_getElem? (i := 1) rfl)) (wG_m8 (List.mem_of_getElem? (i := 8) rfl))) rfl rfl rfl (by decide +kernel) ⟨Nat.le_of_ble_eq_true rfl, Nat.le_of_ble_eq_true rfl⟩) (pw_pv hK hP hD (va_recv hK hP (ci := 0) (q0 := 0) rfl pw_g0) [.ref (ad (23 + 2 * i)), .int (nI ((S2 4 (2 * i)) + ((S 7 2) * j)))]) rfl rfl hl.1 rfl (lv_room (Nat.le_of_ble_eq_true rfl)) d_PD_append_90 ⟨Nat.le_of_ble_eq_true rfl, Nat.le_of_ble_eq_true rfl⟩) hD hS hA (fun X H locs hr hP hD hS => ?_)
          have hX3 : X 3 = S 3 := by rw [hr.2.2.2.1, hb1 3 (by decide)]
          have hX72 : X 7 2 = 0 := by rw [hr.2.2.2.2.2.1, h172]
          refine lv_aload_n hx hb d_PD_append_93 rfl (lv_at hl 4 rfl) ?_
          refine lv_aload hx hb d_PD_append_94 (lv_at hl 2 rfl) ?_
          refine lv_iload hx hb d_PD_append_96 (lv_at hl 1 rfl) ?_
          refine lv_iload_n hx hb d_PD_append_98 rfl (lv_at hl 3 rfl) ?_
          refine lv_iload_n hx hb d_PD_append_99 rfl (lv_at hl 6 rfl) ?_
          refine pw_callv (va_runV (As := [.ref (ad (23 + 2 * i)), .int (nI (S2 4 (2 * i))), .int (nI (S 7 2)), .int (nI j)]) (rest := []) ⟨hx, hb, hml, hown, hg⟩ (c_PD_writeTape l dC dI cI cB cE cL cZ n ad X (2 * i) (S2 4 (2 * i)) (S 7 2) j hn (by omega) h72 hj2 (by omega) (fun k hk => pd_gw_row (by omega) hv1 hr hk) H.size) (cwV 4 hg (gi_V (fun _ h => h) (wG_m8 (List.mem_of_getElem? (i := 20) rfl)) (wG_m8 (List.mem_of_getElem? (i := 21) rfl)) (wG_m14 (List.mem_of_getElem? (i := 9) rfl)) (wG_m1 (List.mem_of_getElem? (i := 1) rfl)) (wG_m8 (List.mem_of_getElem? (i := 22) rfl))) rfl rfl rfl (by decide +kernel) ⟨Nat.le_of_ble_eq_true rfl, Nat.le_of_ble_eq_true rfl⟩) (pw_pv hK hP hD (va_recv hK hP (ci := 0) (q0 := 0) rfl pw_g0) [.ref (ad (23 + 2 * i)), .int (nI (S2 4 (2 * i))), .int (nI (S 7 2)), .int (nI j)]) rfl rfl hl.1 rfl (lv_room (Nat.le_of_ble_eq_true rfl)) d_PD_append_100 ⟨Nat.le_of_ble_eq_true rfl, Nat.le_of_ble_eq_true rfl⟩) hD hS hA (fun Y H locs hrY hP hD hS => ?_)
          obtain ⟨hap, hokY⟩ := pd_ap_of (S' := Y) (tp := fun q => S 3 (q % S 7 2)) (by omega) hv1 hr (by rw [hrY, hX3]) (fun q => hv.2.2.2.2.1 _) hX72
          refine lv_iload hx hb d_PD_append_103 (lv_at hl 0 rfl) ?_
          refine pq_top (y := nI (S 4 (2 * i) + S 7 2 * j)) (by rw [h14]) ?_
          refine W.widen (k := 1) (n := 6) (by omega) (by omega) ?_
          exact vx_ret (W.iret (v := (nI (S 4 (2 * i) + S 7 2 * j))) hx hb hret (fun t9 ht9 hW9 => ⟨⟨_, _, rfl, ⟨i, j, hi, rfl, hj1, hj2, rfl, hrm1.mp h3, rfl, pd_ap_0 hb1 h171 hap, hokY⟩, by rw [ht9]; exact hP, va_K.moved hW9.alike hK, hD⟩, hS.F ht9⟩) hS.2.2 d_PD_append_105)
        · refine pq_if_ne (tgt := 85) hx hb (by omega) d_PD_append_72 (by decide) (fun h9 => absurd h9 (by omega)) (fun _ => ?_)
          obtain ⟨sa, hstr⟩ := hKK.2.1 (78, "not enough pages for these bytes") (by decide +kernel)
          exact vx_throwS hx hb hst hown (cls := "java/lang/UnsupportedOperationException") (names := pgNm) xf_80 xn_nm (hg (Cond.classLink "PageDrive" 76 "java/lang/UnsupportedOperationException") (wG_m7 (List.mem_of_getElem? (i := 32) rfl))) (hg (Cond.initialized "java/lang/UnsupportedOperationException") (wG_m1 (List.mem_of_getElem? (i := 13) rfl))) hstr (pg_hat xa_80 hg hKK.1) xo_80 hZ.1 hZ.2 hS (hl.1.trans hml.symm) d_PD_append_75 d_PD_append_78 d_PD_append_79 d_PD_append_81 d_PD_append_84 (fun x h => (htab x h).elim) (Nat.le_of_ble_eq_true rfl) (Nat.le_of_ble_eq_true rfl) (Nat.le_of_ble_eq_true rfl) (Nat.le_of_ble_eq_true rfl) hlocks (fun t9 hy1 hy2 hy3 => ⟨("java/lang/UnsupportedOperationException", S2), Or.inr ⟨rfl, i, j, hi, rfl, hj1, hj2, rfl, fun q => h3 (hrm1.mpr q), by first | rfl | exact eS2.symm⟩, ⟨rfl, (px_end (Wf := fun S => pw n ad cI cB cE S) hK hP hD hS t9 hy1 hy2 hy3).1⟩, (px_end (Wf := fun S => pw n ad cI cB cE S) hK hP hD hS t9 hy1 hy2 hy3).2⟩) hS.2.2 (Nat.le_of_ble_eq_true rfl) (Nat.le_of_ble_eq_true rfl)
      · obtain ⟨sa, hstr⟩ := hKK.2.1 (60, "no such file, or not 1 to 16 times") (by decide +kernel)
        exact vx_throwS hx hb hst hown (cls := "java/lang/IndexOutOfBoundsException") (names := pgNm) xf_62 xn_nm (hg (Cond.classLink "PageDrive" 58 "java/lang/IndexOutOfBoundsException") (wG_m7 (List.mem_of_getElem? (i := 8) rfl))) (hg (Cond.initialized "java/lang/IndexOutOfBoundsException") (wG_m1 (List.mem_of_getElem? (i := 12) rfl))) hstr (pg_hat xa_62 hg hKK.1) xo_62 hZ.1 hZ.2 hS (hl.1.trans hml.symm) d_PD_append_18 d_PD_append_21 d_PD_append_22 d_PD_append_24 d_PD_append_27 (fun x h => (htab x h).elim) (Nat.le_of_ble_eq_true rfl) (Nat.le_of_ble_eq_true rfl) (Nat.le_of_ble_eq_true rfl) (Nat.le_of_ble_eq_true rfl) hlocks (fun t9 hy1 hy2 hy3 => ⟨("java/lang/IndexOutOfBoundsException", S), Or.inl ⟨rfl, Or.inr (fun j h1j h2j => pd_above (b := 16) (by decide) (Int32.not_le.mp h2) j h2j), rfl⟩, ⟨rfl, (px_end (Wf := fun S => pw n ad cI cB cE S) hK hP hD hS t9 hy1 hy2 hy3).1⟩, (px_end (Wf := fun S => pw n ad cI cB cE S) hK hP hD hS t9 hy1 hy2 hy3).2⟩) hS.2.2 (Nat.le_of_ble_eq_true rfl) (Nat.le_of_ble_eq_true rfl)
  · refine pq_if_eq (tgt := 18) hx hb (by omega) d_PD_append_4 (by decide) (fun _ => ?_) (fun h9 => absurd h9 (by omega))
    obtain ⟨sa, hstr⟩ := hKK.2.1 (60, "no such file, or not 1 to 16 times") (by decide +kernel)
    exact vx_throwS hx hb hst hown (cls := "java/lang/IndexOutOfBoundsException") (names := pgNm) xf_62 xn_nm (hg (Cond.classLink "PageDrive" 58 "java/lang/IndexOutOfBoundsException") (wG_m7 (List.mem_of_getElem? (i := 8) rfl))) (hg (Cond.initialized "java/lang/IndexOutOfBoundsException") (wG_m1 (List.mem_of_getElem? (i := 12) rfl))) hstr (pg_hat xa_62 hg hKK.1) xo_62 hZ.1 hZ.2 hS (hl.1.trans hml.symm) d_PD_append_18 d_PD_append_21 d_PD_append_22 d_PD_append_24 d_PD_append_27 (fun x h => (htab x h).elim) (Nat.le_of_ble_eq_true rfl) (Nat.le_of_ble_eq_true rfl) (Nat.le_of_ble_eq_true rfl) (Nat.le_of_ble_eq_true rfl) hlocks (fun t9 hy1 hy2 hy3 => ⟨("java/lang/IndexOutOfBoundsException", S), Or.inl ⟨rfl, Or.inl hno, rfl⟩, ⟨rfl, (px_end (Wf := fun S => pw n ad cI cB cE S) hK hP hD hS t9 hy1 hy2 hy3).1⟩, (px_end (Wf := fun S => pw n ad cI cB cE S) hK hP hD hS t9 hy1 hy2 hy3).2⟩) hS.2.2 (Nat.le_of_ble_eq_true rfl) (Nat.le_of_ble_eq_true rfl)
set_option maxHeartbeats 4000000 in
set_option maxRecDepth 100000 in
/-- cut -/
theorem c_PD_cut (l : Launch) (dC : Nat → ClassId) (dI : Nat → Nat → Nat) (cI cB cE cL cZ : ClassId) (hst : l.stackTraces = false) (n : Nat) (ad : Nat → Nat) (S : pdS) (f z : Int32) (hn : n ≤ 1024) (hv : pd_v n S) (ho : pd_ok n S (pd_ct S)) (hlw : pd_lo S) (sz : Nat) : CXi l (dC, dI) (pw_ty cI cB cE cL cZ) y_PD_cut w_PD_cut ({ frames := 6, cells := 1, slots := 6, locals := 82 }) [.ref (ad 0), .int f, .int z] (pw n ad cI cB cE S) (pw n ad cI cB cE) sz (fun r S2 => ∃ i x, i < 16 ∧ f = nI i ∧ S 5 (2 * i) ≠ 0 ∧ x ≤ S 4 (2 * i) ∧ z = nI x ∧ r = nI (S 4 (2 * i)) ∧ pd_cut S S2 i x ∧ pd_ok n S2 (pd_ct S2)) (fun E S2 => S2 = S ∧ ((E = "java/lang/IndexOutOfBoundsException" ∧ pd_nof f) ∨ (E = "java/util/NoSuchElementException" ∧ ∃ i, i < 16 ∧ f = nI i ∧ S 5 (2 * i) = 0) ∨ (E = "java/lang/IllegalArgumentException" ∧ ∃ i, i < 16 ∧ f = nI i ∧ S 5 (2 * i) ≠ 0 ∧ ∀ x, x ≤ S 4 (2 * i) → z ≠ nI x))) := by
  refine vx_ofW (cc := b_PD_cut) (maxL := 5) (ret := (some .int)) (by decide) rfl ?_
  intro p e s m args below meth c s₁ B hml htab hv
  obtain ⟨rfl, ⟨hsz, hP, hK, hD0⟩, hKK, hZ⟩ := hv
  have hx := B.exec
  have hb := B.bytes
  have hret := B.returns
  have hts := atoms_spec (ws := w_PD_cut) B.pre
  have hg : ∀ w ∈ wsG, w.before _ s = true := fun w h => hts w (List.mem_cons_of_mem _ h)
  have hown : s.vm.findClass "PageDrive" = some m.cls := findClass_of_methodNamed B.named
  have hlocks := B.notSynchronized
  subst hsz
  have hD := hD0.self (sz := s.heap.size)
  generalize hAe : va_A (pw n ad cI cB cE S) s.heap.size = A at hD hZ ⊢
  have hA : ∀ q : Nat, s.heap.size ≤ q → A q := fun q h => by rw [← hAe]; exact Or.inr h
  have hS : va_S A s.heap s.heap [] := va_S.rf
  have hl := lv_entry ([.ref (ad 0), .int f, .int z]) (n := 5) (Nat.le_of_ble_eq_true rfl)
  rw [lg_entry_eq]
  generalize (lg_sl ([.ref (ad 0), .int f, .int z]) ++ List.replicate (5 - (lg_sl ([.ref (ad 0), .int f, .int z])).length) Slot.unset).toArray = ls at hl ⊢
  have hl : lv_has ls 5 [(0, .ref (ad 0)), (1, .int f), (2, .int z)] := hl
  refine lv_iload_n hx hb d_PD_cut_0 rfl (lv_at hl 1 rfl) ?_
  refine pw_callip (va_runS (As := [.int f]) (rest := []) ⟨hx, hb, hml, hown, hg⟩ (c_PD_isFile l dC dI cI cB cE cL cZ (pw n ad cI cB cE S) f s.heap.size) (cwS 1 hg (gi_S (fun _ h => h) (wG_m7 (List.mem_of_getElem? (i := 5) rfl)) (wG_m7 (List.mem_of_getElem? (i := 6) rfl)) (wG_m1 (List.mem_of_getElem? (i := 1) rfl)) (wG_m7 (List.mem_of_getElem? (i := 7) rfl))) rfl rfl rfl (by decide +kernel) ⟨Nat.le_of_ble_eq_true rfl, Nat.le_of_ble_eq_true rfl⟩) (pw_ps hK hP hD [.int f]) rfl rfl hl.1 rfl (lv_room (Nat.le_of_ble_eq_true rfl)) d_PD_cut_1 ⟨Nat.le_of_ble_eq_true rfl, Nat.le_of_ble_eq_true rfl⟩) hD hS hA (fun r1 H locs hr hP hD hS => ?_)
  rcases hr with ⟨i, hi, rfl, rfl⟩ | ⟨hno, rfl⟩
  · refine pq_if_ne (tgt := 17) hx hb (by omega) d_PD_cut_4 (by decide) (fun _ => ?_) (fun h9 => absurd h9 (by omega))
    have hs4 := (hv.1 (2 * i) (by omega)).1
    have hs5 := (hv.1 (2 * i) (by omega)).2.1
    have hlwi := hlw i hi
    refine lv_aload_n hx hb d_PD_cut_17 rfl (lv_at hl 0 rfl) ?_
    refine va_get (C := "PageDrive") (T := F_PD) (N := 4) hx hb hg iw_PD hown hK hP (0) pw_g0 rfl 1 (by decide) (hg (Cond.fieldLink "PageDrive" 29 "PageDrive" "entries" "[LPageDrive$Entry;") (wG_m3 (List.mem_of_getElem? (i := 18) rfl))) (fun _ h9 => h9) rfl d_PD_cut_18 ?_
    refine lv_iload_n hx hb d_PD_cut_21 rfl (lv_at hl 1 rfl) ?_
    refine pr_ent hx hb hK hP (i := i) (by omega) rfl d_PD_cut_22 ?_
    refine lv_astore_n (lv' := [(3, .ref (ad (7 + i))), (0, .ref (ad 0)), (1, .int (nI i)), (2, .int z)]) hx hb d_PD_cut_23 rfl hl (by decide) rfl (fun ls hl => ?_)
    refine lv_aload_n hx hb d_PD_cut_24 rfl (lv_at hl 0 rfl) ?_
    refine va_get (C := "PageDrive$Entry") (T := F_EN) (N := 3) hx hb hg iw_EN hown hK hP (7 + i) (pw_gE (i := i) (by omega)) rfl 0 (by decide) (hg (Cond.fieldLink "PageDrive" 63 "PageDrive$Entry" "now" "LPageDrive$Content;") (wG_m3 (List.mem_of_getElem? (i := 5) rfl))) (fun _ h9 => h9) rfl d_PD_cut_25 ?_
    refine va_get (C := "PageDrive$Content") (T := F_CO) (N := 3) hx hb hg iw_CO hown hK hP (23 + (2 * i)) (pw_gC (i := 2 * i) (by omega)) rfl 2 (by decide) (hg (Cond.fieldLink "PageDrive" 91 "PageDrive$Content" "there" "Z") (wG_m2 (List.mem_of_getElem? (i := 36) rfl))) (fun _ h9 => h9) rfl d_PD_cut_28 ?_
    refine pq_if_ne (tgt := 44) hx hb (by omega) d_PD_cut_31 (by decide) (fun h1 => ?_) (fun h1 => ?_)
    · refine lv_aload_n hx hb d_PD_cut_44 rfl (lv_at hl 0 rfl) ?_
      refine va_get (C := "PageDrive$Entry") (T := F_EN) (N := 3) hx hb hg iw_EN hown hK hP (7 + i) (pw_gE (i := i) (by omega)) rfl 0 (by decide) (hg (Cond.fieldLink "PageDrive" 63 "PageDrive$Entry" "now" "LPageDrive$Content;") (wG_m3 (List.mem_of_getElem? (i := 5) rfl))) (fun _ h9 => h9) rfl d_PD_cut_45 ?_
      refine va_get (C := "PageDrive$Content") (T := F_CO) (N := 3) hx hb hg iw_CO hown hK hP (23 + (2 * i)) (pw_gC (i := 2 * i) (by omega)) rfl 1 (by decide) (hg (Cond.fieldLink "PageDrive" 67 "PageDrive$Content" "size" "I") (wG_m2 (List.mem_of_getElem? (i := 34) rfl))) (fun _ h9 => h9) rfl d_PD_cut_48 ?_
      refine lv_istore (lv' := [(4, .int (nI (S 4 (2 * i)))), (3, .ref (ad (7 + i))), (0, .ref (ad 0)), (1, .int (nI i)), (2, .int z)]) hx hb d_PD_cut_51 hl (by decide) rfl (fun ls hl => ?_)
      refine lv_iload_n hx hb d_PD_cut_53 rfl (lv_at hl 4 rfl) ?_
      refine lv_if_lt (tgt := 63) hx hb d_PD_cut_54 (by decide) (fun h2 => ?_) (fun h2 => ?_)
      · obtain ⟨sa, hstr⟩ := hKK.2.1 (100, "not 0 to the file's size") (by decide +kernel)
        exact vx_throwS hx hb hst hown (cls := "java/lang/IllegalArgumentException") (names := pgNm) xf_46 xn_nm (hg (Cond.classLink "PageDrive" 42 "java/lang/IllegalArgumentException") (wG_m5 (List.mem_of_getElem? (i := 5) rfl))) (hg (Cond.initialized "java/lang/IllegalArgumentException") (wG_m1 (List.mem_of_getElem? (i := 10) rfl))) hstr (pg_hat xa_46 hg hKK.1) xo_46 hZ.1 hZ.2 hS (hl.1.trans hml.symm) d_PD_cut_63 d_PD_cut_66 d_PD_cut_67 d_PD_cut_69 d_PD_cut_72 (fun x h => (htab x h).elim) (Nat.le_of_ble_eq_true rfl) (Nat.le_of_ble_eq_true rfl) (Nat.le_of_ble_eq_true rfl) (Nat.le_of_ble_eq_true rfl) hlocks (fun t9 hy1 hy2 hy3 => ⟨("java/lang/IllegalArgumentException", S), ⟨rfl, Or.inr (Or.inr ⟨rfl, i, hi, rfl, h1, fun x hx => pd_below (a := 0) h2 x (by omega) (by omega)⟩)⟩, ⟨rfl, (px_end (Wf := fun S => pw n ad cI cB cE S) hK hP hD hS t9 hy1 hy2 hy3).1⟩, (px_end (Wf := fun S => pw n ad cI cB cE S) hK hP hD hS t9 hy1 hy2 hy3).2⟩) hS.2.2 (Nat.le_of_ble_eq_true rfl) (Nat.le_of_ble_eq_true rfl)
      · refine lv_iload_n hx hb d_PD_cut_57 rfl (lv_at hl 4 rfl) ?_
        refine lv_iload hx hb d_PD_cut_58 (lv_at hl 0 rfl) ?_
        refine lv_icmp_le (tgt := 73) hx hb d_PD_cut_60 (by decide) (fun h3 => ?_) (fun h3 => ?_)
        · obtain ⟨x, hx1, hx2, rfl⟩ := pd_rng (a := 0) (b := S 4 (2 * i)) (by decide) (by omega) h2 (fun q => Int32.lt_irrefl (Int32.lt_of_le_of_lt h3 q))
          refine lv_aload_n hx hb d_PD_cut_73 rfl (lv_at hl 2 rfl) ?_
          refine lv_aload_n hx hb d_PD_cut_74 rfl (lv_at hl 1 rfl) ?_
          refine va_get (C := "PageDrive$Entry") (T := F_EN) (N := 3) hx hb hg iw_EN hown hK hP (7 + i) (pw_gE (i := i) (by omega)) rfl 0 (by decide) (hg (Cond.fieldLink "PageDrive" 63 "PageDrive$Entry" "now" "LPageDrive$Content;") (wG_m3 (List.mem_of_getElem? (i := 5) rfl))) (fun _ h9 => h9) rfl d_PD_cut_75 ?_
          refine lv_iload_n hx hb d_PD_cut_78 rfl (lv_at hl 4 rfl) ?_
          refine pw_callv (va_runV (As := [.ref (ad (23 + 2 * i)), .int (nI x)]) (rest := []) ⟨hx, hb, hml, hown, hg⟩ (c_PD_shorten l dC dI cI cB cE cL cZ n ad S (2 * i) x (fun q => pd_ct S q - pd_tl S (2 * i) x q) hn (by omega) hx2 hs4 (fun k hk => hv.2.1 _ k (by omega) hk) (fun q => by have h7 := pd_ct_bd hv q; show _ - _ < _; omega) (pd_sh_pre (by omega) hx2 ho) H.size) (cwV 2 hg (gi_V (fun _ h => h) (wG_m4 (List.mem_of_getElem? (i := 13) rfl)) (wG_m4 (List.mem_of_getElem? (i := 14) rfl)) (wG_m14 (List.mem_of_getElem? (i := 2) rfl)) (wG_m1 (List.mem_of_getElem? (i := 1) rfl)) (wG_m4 (List.mem_of_getElem? (i := 15) rfl))) rfl rfl rfl (by decide +kernel) ⟨Nat.le_of_ble_eq_true rfl, Nat.le_of_ble_eq_true rfl⟩) (pw_pv hK hP hD (va_recv hK hP (ci := 0) (q0 := 0) rfl pw_g0) [.ref (ad (23 + 2 * i)), .int (nI x)]) rfl rfl hl.1 rfl (lv_room (Nat.le_of_ble_eq_true rfl)) d_PD_cut_79 ⟨Nat.le_of_ble_eq_true rfl, Nat.le_of_ble_eq_true rfl⟩) hD hS hA (fun T H locs hr hP hD hS => ?_)
          obtain ⟨T0, ht1, ht2, ht3⟩ := hr
          have hsh := pd_sh_of ht1 ht3
          have hoT : pd_ok n T (pd_ct T) := pd_sh_post (by omega) hx2 hsh (by rw [ht3]; exact pd_ok_st ht2 (by decide) (by decide) (Or.inl (by decide)))
          have hT6 : T 6 i = S 6 i := by rw [hsh.2.2.2.2.1]
          refine lv_aload_n hx hb d_PD_cut_82 rfl (lv_at hl 1 rfl) ?_
          refine lv_aload_n hx hb d_PD_cut_83 rfl (lv_at hl 1 rfl) ?_
          refine va_get (C := "PageDrive$Entry") (T := F_EN) (N := 3) hx hb hg iw_EN hown hK hP (7 + i) (pw_gE (i := i) (by omega)) rfl 2 (by decide) (hg (Cond.fieldLink "PageDrive" 105 "PageDrive$Entry" "low" "I") (wG_m3 (List.mem_of_getElem? (i := 9) rfl))) (fun _ h9 => h9) rfl d_PD_cut_84 ?_
          refine lv_iload_n hx hb d_PD_cut_87 rfl (lv_at hl 4 rfl) ?_
          refine va_mmin hx hb (hml.trans hl.1.symm) hown (hg _ (wG_m1 (List.mem_of_getElem? (i := 26) rfl))) (hg _ (wG_m1 (List.mem_of_getElem? (i := 27) rfl))) (hg (Cond.initialized "java/lang/Math") (wG_m1 (List.mem_of_getElem? (i := 3) rfl))) (hg _ (wG_m1 (List.mem_of_getElem? (i := 28) rfl))) (Nat.le_of_ble_eq_true rfl) (Nat.le_of_ble_eq_true rfl) (Nat.zero_le _) (Nat.zero_le _) d_PD_cut_88 ?_
          refine pq_top (y := nI (if x < S 6 i then x else S 6 i)) (by rw [hT6]; exact pd_min (by omega) (by omega)) ?_
          refine pr_low hx hb hg hown hK hP hD hS (i := i) (by omega) (hg (Cond.fieldLink "PageDrive" 105 "PageDrive$Entry" "low" "I") (wG_m3 (List.mem_of_getElem? (i := 9) rfl))) d_PD_cut_91 (fun H locs hP hD hS => ?_)
          generalize eS2 : pd_st T 6 i (if x < S 6 i then x else S 6 i) = S2 at hP hD
          refine lv_iload hx hb d_PD_cut_94 (lv_at hl 0 rfl) ?_
          have hct : ∀ q, pd_ct S2 q = pd_ct T q := fun q => by rw [← eS2]; exact pd_ct_congr (pd_bk _ (by decide)) (fun d _ k _ => by rw [pd_bk _ (by omega)]) q
          refine W.widen (k := 1) (n := 6) (by omega) (by omega) ?_
          exact vx_ret (W.iret (v := (nI (S 4 (2 * i)))) hx hb hret (fun t9 ht9 hW9 => ⟨⟨_, _, rfl, ⟨i, x, hi, rfl, h1, hx2, rfl, rfl, ⟨T, hsh, by rw [eS2]; exact pd_sa_rf _⟩, pd_ok_congr (by rw [← eS2]; exact pd_ok_st hoT (by decide) (by decide) (Or.inl (by decide))) (fun q _ => (hct q).symm)⟩, by rw [ht9]; exact hP, va_K.moved hW9.alike hK, hD⟩, hS.F ht9⟩) hS.2.2 d_PD_cut_96)
        · obtain ⟨sa, hstr⟩ := hKK.2.1 (100, "not 0 to the file's size") (by decide +kernel)
          exact vx_throwS hx hb hst hown (cls := "java/lang/IllegalArgumentException") (names := pgNm) xf_46 xn_nm (hg (Cond.classLink "PageDrive" 42 "java/lang/IllegalArgumentException") (wG_m5 (List.mem_of_getElem? (i := 5) rfl))) (hg (Cond.initialized "java/lang/IllegalArgumentException") (wG_m1 (List.mem_of_getElem? (i := 10) rfl))) hstr (pg_hat xa_46 hg hKK.1) xo_46 hZ.1 hZ.2 hS (hl.1.trans hml.symm) d_PD_cut_63 d_PD_cut_66 d_PD_cut_67 d_PD_cut_69 d_PD_cut_72 (fun x h => (htab x h).elim) (Nat.le_of_ble_eq_true rfl) (Nat.le_of_ble_eq_true rfl) (Nat.le_of_ble_eq_true rfl) (Nat.le_of_ble_eq_true rfl) hlocks (fun t9 hy1 hy2 hy3 => ⟨("java/lang/IllegalArgumentException", S), ⟨rfl, Or.inr (Or.inr ⟨rfl, i, hi, rfl, h1, fun x hx => pd_above (b := S 4 (2 * i)) (by omega) (Int32.not_le.mp h3) x hx⟩)⟩, ⟨rfl, (px_end (Wf := fun S => pw n ad cI cB cE S) hK hP hD hS t9 hy1 hy2 hy3).1⟩, (px_end (Wf := fun S => pw n ad cI cB cE S) hK hP hD hS t9 hy1 hy2 hy3).2⟩) hS.2.2 (Nat.le_of_ble_eq_true rfl) (Nat.le_of_ble_eq_true rfl)
    · obtain ⟨sa, hstr⟩ := hKK.2.1 (97, "the file is not there") (by decide +kernel)
      exact vx_throwNS hx hb hst hown (hg (Cond.classLink "PageDrive" 95 "java/util/NoSuchElementException") (wG_m8 (List.mem_of_getElem? (i := 35) rfl))) (hg (Cond.initialized "java/util/NoSuchElementException") (wG_m1 (List.mem_of_getElem? (i := 15) rfl))) hstr hg hKK.1 hZ.1 hZ.2 hS (hl.1.trans hml.symm) d_PD_cut_34 d_PD_cut_37 d_PD_cut_38 d_PD_cut_40 d_PD_cut_43 (fun x h => (htab x h).elim) (Nat.le_of_ble_eq_true rfl) (Nat.le_of_ble_eq_true rfl) (Nat.le_of_ble_eq_true rfl) (Nat.le_of_ble_eq_true rfl) hlocks (fun t9 hy1 hy2 hy3 => ⟨("java/util/NoSuchElementException", S), ⟨rfl, Or.inr (Or.inl ⟨rfl, i, hi, rfl, h1⟩)⟩, ⟨rfl, (px_end (Wf := fun S => pw n ad cI cB cE S) hK hP hD hS t9 hy1 hy2 hy3).1⟩, (px_end (Wf := fun S => pw n ad cI cB cE S) hK hP hD hS t9 hy1 hy2 hy3).2⟩) hS.2.2 (Nat.le_of_ble_eq_true rfl) (Nat.le_of_ble_eq_true rfl)
  · refine pq_if_ne (tgt := 17) hx hb (by omega) d_PD_cut_4 (by decide) (fun h9 => absurd h9 (by omega)) (fun _ => ?_)
    obtain ⟨sa, hstr⟩ := hKK.2.1 (89, "no such file number") (by decide +kernel)
    exact vx_throwS hx hb hst hown (cls := "java/lang/IndexOutOfBoundsException") (names := pgNm) xf_62 xn_nm (hg (Cond.classLink "PageDrive" 58 "java/lang/IndexOutOfBoundsException") (wG_m7 (List.mem_of_getElem? (i := 8) rfl))) (hg (Cond.initialized "java/lang/IndexOutOfBoundsException") (wG_m1 (List.mem_of_getElem? (i := 12) rfl))) hstr (pg_hat xa_62 hg hKK.1) xo_62 hZ.1 hZ.2 hS (hl.1.trans hml.symm) d_PD_cut_7 d_PD_cut_10 d_PD_cut_11 d_PD_cut_13 d_PD_cut_16 (fun x h => (htab x h).elim) (Nat.le_of_ble_eq_true rfl) (Nat.le_of_ble_eq_true rfl) (Nat.le_of_ble_eq_true rfl) (Nat.le_of_ble_eq_true rfl) hlocks (fun t9 hy1 hy2 hy3 => ⟨("java/lang/IndexOutOfBoundsException", S), ⟨rfl, Or.inl ⟨rfl, hno⟩⟩, ⟨rfl, (px_end (Wf := fun S => pw n ad cI cB cE S) hK hP hD hS t9 hy1 hy2 hy3).1⟩, (px_end (Wf := fun S => pw n ad cI cB cE S) hK hP hD hS t9 hy1 hy2 hy3).2⟩) hS.2.2 (Nat.le_of_ble_eq_true rfl) (Nat.le_of_ble_eq_true rfl)
set_option maxHeartbeats 4000000 in
set_option maxRecDepth 100000 in
/-- remove -/
theorem c_PD_remove (l : Launch) (dC : Nat → ClassId) (dI : Nat → Nat → Nat) (cI cB cE cL cZ : ClassId) (hst : l.stackTraces = false) (n : Nat) (ad : Nat → Nat) (S : pdS) (f : Int32) (hn : n ≤ 1024) (hv : pd_v n S) (ho : pd_ok n S (pd_ct S)) (sz : Nat) : CXi l (dC, dI) (pw_ty cI cB cE cL cZ) y_PD_remove w_PD_remove ({ frames := 6, cells := 1, slots := 6, locals := 82 }) [.ref (ad 0), .int f] (pw n ad cI cB cE S) (pw n ad cI cB cE) sz (fun r S2 => ∃ i, i < 16 ∧ f = nI i ∧ r = nI (S 5 (2 * i)) ∧ pd_rem S S2 i ∧ pd_ok n S2 (pd_ct S2)) (fun E S2 => S2 = S ∧ E = "java/lang/IndexOutOfBoundsException" ∧ pd_nof f) := by
  refine vx_ofW (cc := b_PD_remove) (maxL := 4) (ret := (some .boolean)) (by decide) rfl ?_
  intro p e s m args below meth c s₁ B hml htab hv
  obtain ⟨rfl, ⟨hsz, hP, hK, hD0⟩, hKK, hZ⟩ := hv
  have hx := B.exec
  have hb := B.bytes
  have hret := B.returns
  have hts := atoms_spec (ws := w_PD_remove) B.pre
  have hg : ∀ w ∈ wsG, w.before _ s = true := fun w h => hts w (List.mem_cons_of_mem _ h)
  have hown : s.vm.findClass "PageDrive" = some m.cls := findClass_of_methodNamed B.named
  have hlocks := B.notSynchronized
  subst hsz
  have hD := hD0.self (sz := s.heap.size)
  generalize hAe : va_A (pw n ad cI cB cE S) s.heap.size = A at hD hZ ⊢
  have hA : ∀ q : Nat, s.heap.size ≤ q → A q := fun q h => by rw [← hAe]; exact Or.inr h
  have hS : va_S A s.heap s.heap [] := va_S.rf
  have hl := lv_entry ([.ref (ad 0), .int f]) (n := 4) (Nat.le_of_ble_eq_true rfl)
  rw [lg_entry_eq]
  generalize (lg_sl ([.ref (ad 0), .int f]) ++ List.replicate (4 - (lg_sl ([.ref (ad 0), .int f])).length) Slot.unset).toArray = ls at hl ⊢
  have hl : lv_has ls 4 [(0, .ref (ad 0)), (1, .int f)] := hl
  refine lv_iload_n hx hb d_PD_remove_0 rfl (lv_at hl 1 rfl) ?_
  refine pw_callip (va_runS (As := [.int f]) (rest := []) ⟨hx, hb, hml, hown, hg⟩ (c_PD_isFile l dC dI cI cB cE cL cZ (pw n ad cI cB cE S) f s.heap.size) (cwS 1 hg (gi_S (fun _ h => h) (wG_m7 (List.mem_of_getElem? (i := 5) rfl)) (wG_m7 (List.mem_of_getElem? (i := 6) rfl)) (wG_m1 (List.mem_of_getElem? (i := 1) rfl)) (wG_m7 (List.mem_of_getElem? (i := 7) rfl))) rfl rfl rfl (by decide +kernel) ⟨Nat.le_of_ble_eq_true rfl, Nat.le_of_ble_eq_true rfl⟩) (pw_ps hK hP hD [.int f]) rfl rfl hl.1 rfl (lv_room (Nat.le_of_ble_eq_true rfl)) d_PD_remove_1 ⟨Nat.le_of_ble_eq_true rfl, Nat.le_of_ble_eq_true rfl⟩) hD hS hA (fun r1 H locs hr hP hD hS => ?_)
  rcases hr with ⟨i, hi, rfl, rfl⟩ | ⟨hno, rfl⟩
  · refine pq_if_ne (tgt := 17) hx hb (by omega) d_PD_remove_4 (by decide) (fun _ => ?_) (fun h9 => absurd h9 (by omega))
    have hs4 := (hv.1 (2 * i) (by omega)).1
    have hs5 := (hv.1 (2 * i) (by omega)).2.1
    refine lv_aload_n hx hb d_PD_remove_17 rfl (lv_at hl 0 rfl) ?_
    refine va_get (C := "PageDrive") (T := F_PD) (N := 4) hx hb hg iw_PD hown hK hP (0) pw_g0 rfl 1 (by decide) (hg (Cond.fieldLink "PageDrive" 29 "PageDrive" "entries" "[LPageDrive$Entry;") (wG_m3 (List.mem_of_getElem? (i := 18) rfl))) (fun _ h9 => h9) rfl d_PD_remove_18 ?_
    refine lv_iload_n hx hb d_PD_remove_21 rfl (lv_at hl 1 rfl) ?_
    refine pr_ent hx hb hK hP (i := i) (by omega) rfl d_PD_remove_22 ?_
    refine lv_astore_n (lv' := [(2, .ref (ad (7 + i))), (0, .ref (ad 0)), (1, .int (nI i))]) hx hb d_PD_remove_23 rfl hl (by decide) rfl (fun ls hl => ?_)
    refine lv_aload_n hx hb d_PD_remove_24 rfl (lv_at hl 0 rfl) ?_
    refine va_get (C := "PageDrive$Entry") (T := F_EN) (N := 3) hx hb hg iw_EN hown hK hP (7 + i) (pw_gE (i := i) (by omega)) rfl 0 (by decide) (hg (Cond.fieldLink "PageDrive" 63 "PageDrive$Entry" "now" "LPageDrive$Content;") (wG_m3 (List.mem_of_getElem? (i := 5) rfl))) (fun _ h9 => h9) rfl d_PD_remove_25 ?_
    refine va_get (C := "PageDrive$Content") (T := F_CO) (N := 3) hx hb hg iw_CO hown hK hP (23 + (2 * i)) (pw_gC (i := 2 * i) (by omega)) rfl 2 (by decide) (hg (Cond.fieldLink "PageDrive" 91 "PageDrive$Content" "there" "Z") (wG_m2 (List.mem_of_getElem? (i := 36) rfl))) (fun _ h9 => h9) rfl d_PD_remove_28 ?_
    refine lv_istore_n (lv' := [(3, .int (nI (S 5 (2 * i)))), (2, .ref (ad (7 + i))), (0, .ref (ad 0)), (1, .int (nI i))]) hx hb d_PD_remove_31 rfl hl (by decide) rfl (fun ls hl => ?_)
    refine lv_aload_n hx hb d_PD_remove_32 rfl (lv_at hl 2 rfl) ?_
    refine lv_aload_n hx hb d_PD_remove_33 rfl (lv_at hl 1 rfl) ?_
    refine va_get (C := "PageDrive$Entry") (T := F_EN) (N := 3) hx hb hg iw_EN hown hK hP (7 + i) (pw_gE (i := i) (by omega)) rfl 0 (by decide) (hg (Cond.fieldLink "PageDrive" 63 "PageDrive$Entry" "now" "LPageDrive$Content;") (wG_m3 (List.mem_of_getElem? (i := 5) rfl))) (fun _ h9 => h9) rfl d_PD_remove_34 ?_
    refine lv_iconst (v := nI 0) hx hb d_PD_remove_37 (by decide) ?_
    refine pw_callv (va_runV (As := [.ref (ad (23 + 2 * i)), .int (nI 0)]) (rest := []) ⟨hx, hb, hml, hown, hg⟩ (c_PD_shorten l dC dI cI cB cE cL cZ n ad S (2 * i) 0 (fun q => pd_ct S q - pd_tl S (2 * i) 0 q) hn (by omega) (Nat.zero_le _) hs4 (fun k hk => hv.2.1 _ k (by omega) hk) (fun q => by have h7 := pd_ct_bd hv q; show _ - _ < _; omega) (pd_sh_pre (by omega) (Nat.zero_le _) ho) H.size) (cwV 2 hg (gi_V (fun _ h => h) (wG_m4 (List.mem_of_getElem? (i := 13) rfl)) (wG_m4 (List.mem_of_getElem? (i := 14) rfl)) (wG_m14 (List.mem_of_getElem? (i := 2) rfl)) (wG_m1 (List.mem_of_getElem? (i := 1) rfl)) (wG_m4 (List.mem_of_getElem? (i := 15) rfl))) rfl rfl rfl (by decide +kernel) ⟨Nat.le_of_ble_eq_true rfl, Nat.le_of_ble_eq_true rfl⟩) (pw_pv hK hP hD (va_recv hK hP (ci := 0) (q0 := 0) rfl pw_g0) [.ref (ad (23 + 2 * i)), .int (nI 0)]) rfl rfl hl.1 rfl (lv_room (Nat.le_of_ble_eq_true rfl)) d_PD_remove_38 ⟨Nat.le_of_ble_eq_true rfl, Nat.le_of_ble_eq_true rfl⟩) hD hS hA (fun T H locs hr hP hD hS => ?_)
    obtain ⟨T0, ht1, ht2, ht3⟩ := hr
    have hsh := pd_sh_of ht1 ht3
    have hoT : pd_ok n T (pd_ct T) := pd_sh_post (by omega) (Nat.zero_le _) hsh (by rw [ht3]; exact pd_ok_st ht2 (by decide) (by decide) (Or.inl (by decide)))
    refine lv_aload_n hx hb d_PD_remove_41 rfl (lv_at hl 1 rfl) ?_
    refine va_get (C := "PageDrive$Entry") (T := F_EN) (N := 3) hx hb hg iw_EN hown hK hP (7 + i) (pw_gE (i := i) (by omega)) rfl 0 (by decide) (hg (Cond.fieldLink "PageDrive" 63 "PageDrive$Entry" "now" "LPageDrive$Content;") (wG_m3 (List.mem_of_getElem? (i := 5) rfl))) (fun _ h9 => h9) rfl d_PD_remove_42 ?_
    refine lv_iconst (v := nI 0) hx hb d_PD_remove_45 (by decide) ?_
    refine pr_there hx hb hg hown hK hP hD hS (i := 2 * i) (by omega) (by omega) (hg (Cond.fieldLink "PageDrive" 91 "PageDrive$Content" "there" "Z") (wG_m2 (List.mem_of_getElem? (i := 36) rfl))) d_PD_remove_46 (fun H locs hP hD hS => ?_)
    generalize eS2 : pd_st T 5 (2 * i) 0 = S2 at hP hD
    refine lv_aload_n hx hb d_PD_remove_49 rfl (lv_at hl 1 rfl) ?_
    refine lv_iconst (v := nI 0) hx hb d_PD_remove_50 (by decide) ?_
    refine pr_low hx hb hg hown hK hP hD hS (i := i) (by omega) (hg (Cond.fieldLink "PageDrive" 105 "PageDrive$Entry" "low" "I") (wG_m3 (List.mem_of_getElem? (i := 9) rfl))) d_PD_remove_51 (fun H locs hP hD hS => ?_)
    generalize eS3 : pd_st S2 6 i 0 = S3 at hP hD
    refine lv_iload_n hx hb d_PD_remove_54 rfl (lv_at hl 0 rfl) ?_
    have hct : ∀ q, pd_ct S3 q = pd_ct T q := fun q => by rw [← eS3, ← eS2]; exact pd_ct_congr (by rw [pd_bk _ (by decide), pd_bk _ (by decide)]) (fun d _ k _ => by rw [pd_bk _ (by omega), pd_bk _ (by omega)]) q
    refine W.widen (k := 1) (n := 6) (by omega) (by omega) ?_
    exact vx_ret (W.zret (v := (nI (S 5 (2 * i)))) hx hb hret (pw_n01 hs5 rfl).1 (fun t9 ht9 hW9 => ⟨⟨_, _, rfl, ⟨i, hi, rfl, rfl, ⟨T, hsh, by rw [eS2, eS3]; exact pd_sa_rf _⟩, pd_ok_congr (by rw [← eS3, ← eS2]; exact pd_ok_st (pd_ok_st hoT (by decide) (by decide) (Or.inl (by decide))) (by decide) (by decide) (Or.inl (by decide))) (fun q _ => (hct q).symm)⟩, by rw [ht9]; exact hP, va_K.moved hW9.alike hK, hD⟩, hS.F ht9⟩) hS.2.2 d_PD_remove_55)
  · refine pq_if_ne (tgt := 17) hx hb (by omega) d_PD_remove_4 (by decide) (fun h9 => absurd h9 (by omega)) (fun _ => ?_)
    obtain ⟨sa, hstr⟩ := hKK.2.1 (89, "no such file number") (by decide +kernel)
    exact vx_throwS hx hb hst hown (cls := "java/lang/IndexOutOfBoundsException") (names := pgNm) xf_62 xn_nm (hg (Cond.classLink "PageDrive" 58 "java/lang/IndexOutOfBoundsException") (wG_m7 (List.mem_of_getElem? (i := 8) rfl))) (hg (Cond.initialized "java/lang/IndexOutOfBoundsException") (wG_m1 (List.mem_of_getElem? (i := 12) rfl))) hstr (pg_hat xa_62 hg hKK.1) xo_62 hZ.1 hZ.2 hS (hl.1.trans hml.symm) d_PD_remove_7 d_PD_remove_10 d_PD_remove_11 d_PD_remove_13 d_PD_remove_16 (fun x h => (htab x h).elim) (Nat.le_of_ble_eq_true rfl) (Nat.le_of_ble_eq_true rfl) (Nat.le_of_ble_eq_true rfl) (Nat.le_of_ble_eq_true rfl) hlocks (fun t9 hy1 hy2 hy3 => ⟨("java/lang/IndexOutOfBoundsException", S), ⟨rfl, rfl, hno⟩, ⟨rfl, (px_end (Wf := fun S => pw n ad cI cB cE S) hK hP hD hS t9 hy1 hy2 hy3).1⟩, (px_end (Wf := fun S => pw n ad cI cB cE S) hK hP hD hS t9 hy1 hy2 hy3).2⟩) hS.2.2 (Nat.le_of_ble_eq_true rfl) (Nat.le_of_ble_eq_true rfl)
set_option maxHeartbeats 4000000 in
set_option maxRecDepth 100000 in
/-- sync -/
theorem c_PD_sync (l : Launch) (dC : Nat → ClassId) (dI : Nat → Nat → Nat) (cI cB cE cL cZ : ClassId) (hst : l.stackTraces = false) (n : Nat) (ad : Nat → Nat) (S : pdS) (f : Int32) (hn : n ≤ 1024) (hv : pd_v n S) (ho : pd_ok n S (pd_ct S)) (sz : Nat) : CXi l (dC, dI) (pw_ty cI cB cE cL cZ) y_PD_sync w_PD_sync ({ frames := 6, cells := 1, slots := 6, locals := 105 }) [.ref (ad 0), .int f] (pw n ad cI cB cE S) (pw n ad cI cB cE) sz (fun r S2 => ∃ i, i < 16 ∧ f = nI i ∧ r = nI (pd_un S i) ∧ pd_set S S2 i ∧ pd_ok n S2 (pd_ct S2)) (fun E S2 => S2 = S ∧ E = "java/lang/IndexOutOfBoundsException" ∧ pd_nof f) := by
  refine vx_ofW (cc := b_PD_sync) (maxL := 4) (ret := (some .int)) (by decide) rfl ?_
  intro p e s m args below meth c s₁ B hml htab hv
  obtain ⟨rfl, ⟨hsz, hP, hK, hD0⟩, hKK, hZ⟩ := hv
  have hx := B.exec
  have hb := B.bytes
  have hret := B.returns
  have hts := atoms_spec (ws := w_PD_sync) B.pre
  have hg : ∀ w ∈ wsG, w.before _ s = true := fun w h => hts w (List.mem_cons_of_mem _ h)
  have hown : s.vm.findClass "PageDrive" = some m.cls := findClass_of_methodNamed B.named
  have hlocks := B.notSynchronized
  subst hsz
  have hD := hD0.self (sz := s.heap.size)
  generalize hAe : va_A (pw n ad cI cB cE S) s.heap.size = A at hD hZ ⊢
  have hA : ∀ q : Nat, s.heap.size ≤ q → A q := fun q h => by rw [← hAe]; exact Or.inr h
  have hS : va_S A s.heap s.heap [] := va_S.rf
  have hl := lv_entry ([.ref (ad 0), .int f]) (n := 4) (Nat.le_of_ble_eq_true rfl)
  rw [lg_entry_eq]
  generalize (lg_sl ([.ref (ad 0), .int f]) ++ List.replicate (4 - (lg_sl ([.ref (ad 0), .int f])).length) Slot.unset).toArray = ls at hl ⊢
  have hl : lv_has ls 4 [(0, .ref (ad 0)), (1, .int f)] := hl
  refine lv_iload_n hx hb d_PD_sync_0 rfl (lv_at hl 1 rfl) ?_
  refine pw_callip (va_runS (As := [.int f]) (rest := []) ⟨hx, hb, hml, hown, hg⟩ (c_PD_isFile l dC dI cI cB cE cL cZ (pw n ad cI cB cE S) f s.heap.size) (cwS 1 hg (gi_S (fun _ h => h) (wG_m7 (List.mem_of_getElem? (i := 5) rfl)) (wG_m7 (List.mem_of_getElem? (i := 6) rfl)) (wG_m1 (List.mem_of_getElem? (i := 1) rfl)) (wG_m7 (List.mem_of_getElem? (i := 7) rfl))) rfl rfl rfl (by decide +kernel) ⟨Nat.le_of_ble_eq_true rfl, Nat.le_of_ble_eq_true rfl⟩) (pw_ps hK hP hD [.int f]) rfl rfl hl.1 rfl (lv_room (Nat.le_of_ble_eq_true rfl)) d_PD_sync_1 ⟨Nat.le_of_ble_eq_true rfl, Nat.le_of_ble_eq_true rfl⟩) hD hS hA (fun r1 H locs hr hP hD hS => ?_)
  rcases hr with ⟨i, hi, rfl, rfl⟩ | ⟨hno, rfl⟩
  · refine pq_if_ne (tgt := 17) hx hb (by omega) d_PD_sync_4 (by decide) (fun _ => ?_) (fun h9 => absurd h9 (by omega))
    refine lv_aload_n hx hb d_PD_sync_17 rfl (lv_at hl 0 rfl) ?_
    refine va_get (C := "PageDrive") (T := F_PD) (N := 4) hx hb hg iw_PD hown hK hP (0) pw_g0 rfl 1 (by decide) (hg (Cond.fieldLink "PageDrive" 29 "PageDrive" "entries" "[LPageDrive$Entry;") (wG_m3 (List.mem_of_getElem? (i := 18) rfl))) (fun _ h9 => h9) rfl d_PD_sync_18 ?_
    refine lv_iload_n hx hb d_PD_sync_21 rfl (lv_at hl 1 rfl) ?_
    refine pr_ent hx hb hK hP (i := i) (by omega) rfl d_PD_sync_22 ?_
    refine lv_astore_n (lv' := [(2, .ref (ad (7 + i))), (0, .ref (ad 0)), (1, .int (nI i))]) hx hb d_PD_sync_23 rfl hl (by decide) rfl (fun ls hl => ?_)
    refine lv_aload_n hx hb d_PD_sync_24 rfl (lv_at hl 0 rfl) ?_
    refine va_get (C := "PageDrive$Entry") (T := F_EN) (N := 3) hx hb hg iw_EN hown hK hP (7 + i) (pw_gE (i := i) (by omega)) rfl 1 (by decide) (hg (Cond.fieldLink "PageDrive" 112 "PageDrive$Entry" "synced" "LPageDrive$Content;") (wG_m3 (List.mem_of_getElem? (i := 7) rfl))) (fun _ h9 => h9) rfl d_PD_sync_25 ?_
    refine lv_aload_n hx hb d_PD_sync_28 rfl (lv_at hl 0 rfl) ?_
    refine va_get (C := "PageDrive$Entry") (T := F_EN) (N := 3) hx hb hg iw_EN hown hK hP (7 + i) (pw_gE (i := i) (by omega)) rfl 0 (by decide) (hg (Cond.fieldLink "PageDrive" 63 "PageDrive$Entry" "now" "LPageDrive$Content;") (wG_m3 (List.mem_of_getElem? (i := 5) rfl))) (fun _ h9 => h9) rfl d_PD_sync_29 ?_
    refine pw_callip (va_runS (As := [.ref (ad (23 + (2 * i + 1))), .ref (ad (23 + 2 * i))]) (rest := []) ⟨hx, hb, hml, hown, hg⟩ (c_PD_pagesNotIn l dC dI cI cB cE cL cZ n ad S (2 * i + 1) (2 * i) hn hv (by omega) (by omega) H.size) (cwS 2 hg (gi_S (fun _ h => h) (wG_m9 (List.mem_of_getElem? (i := 30) rfl)) (wG_m9 (List.mem_of_getElem? (i := 31) rfl)) (wG_m1 (List.mem_of_getElem? (i := 1) rfl)) (wG_m9 (List.mem_of_getElem? (i := 32) rfl))) rfl rfl rfl (by decide +kernel) ⟨Nat.le_of_ble_eq_true rfl, Nat.le_of_ble_eq_true rfl⟩) (pw_ps hK hP hD [.ref (ad (23 + (2 * i + 1))), .ref (ad (23 + 2 * i))]) rfl rfl hl.1 rfl (lv_room (Nat.le_of_ble_eq_true rfl)) d_PD_sync_32 ⟨Nat.le_of_ble_eq_true rfl, Nat.le_of_ble_eq_true rfl⟩) hD hS hA (fun r2 H locs hr hP hD hS => ?_)
    have hr2 : r2 = nI (pd_un S i) := hr
    subst hr2
    refine lv_istore_n (lv' := [(3, .int (nI (pd_un S i))), (2, .ref (ad (7 + i))), (0, .ref (ad 0)), (1, .int (nI i))]) hx hb d_PD_sync_35 rfl hl (by decide) rfl (fun ls hl => ?_)
    refine lv_aload_n hx hb d_PD_sync_36 rfl (lv_at hl 2 rfl) ?_
    refine lv_aload_n hx hb d_PD_sync_37 rfl (lv_at hl 1 rfl) ?_
    refine pw_callv (va_runV (As := [.ref (ad (7 + i))]) (rest := []) ⟨hx, hb, hml, hown, hg⟩ (c_PD_settle l dC dI cI cB cE cL cZ n ad S i hn hv ho hi H.size) (cwV 1 hg (gi_V (fun _ h => h) (wG_m4 (List.mem_of_getElem? (i := 23) rfl)) (wG_m4 (List.mem_of_getElem? (i := 24) rfl)) (wG_m14 (List.mem_of_getElem? (i := 3) rfl)) (wG_m1 (List.mem_of_getElem? (i := 1) rfl)) (wG_m4 (List.mem_of_getElem? (i := 25) rfl))) rfl rfl rfl (by decide +kernel) ⟨Nat.le_of_ble_eq_true rfl, Nat.le_of_ble_eq_true rfl⟩) (pw_pv hK hP hD (va_recv hK hP (ci := 0) (q0 := 0) rfl pw_g0) [.ref (ad (7 + i))]) rfl rfl hl.1 rfl (lv_room (Nat.le_of_ble_eq_true rfl)) d_PD_sync_38 ⟨Nat.le_of_ble_eq_true rfl, Nat.le_of_ble_eq_true rfl⟩) hD hS hA (fun S2 H locs hrS hP hD hS => ?_)
    refine lv_iload_n hx hb d_PD_sync_41 rfl (lv_at hl 0 rfl) ?_
    refine W.widen (k := 1) (n := 6) (by omega) (by omega) ?_
    exact vx_ret (W.iret (v := (nI (pd_un S i))) hx hb hret (fun t9 ht9 hW9 => ⟨⟨_, _, rfl, ⟨i, hi, rfl, rfl, hrS.1, hrS.2⟩, by rw [ht9]; exact hP, va_K.moved hW9.alike hK, hD⟩, hS.F ht9⟩) hS.2.2 d_PD_sync_42)
  · refine pq_if_ne (tgt := 17) hx hb (by omega) d_PD_sync_4 (by decide) (fun h9 => absurd h9 (by omega)) (fun _ => ?_)
    obtain ⟨sa, hstr⟩ := hKK.2.1 (89, "no such file number") (by decide +kernel)
    exact vx_throwS hx hb hst hown (cls := "java/lang/IndexOutOfBoundsException") (names := pgNm) xf_62 xn_nm (hg (Cond.classLink "PageDrive" 58 "java/lang/IndexOutOfBoundsException") (wG_m7 (List.mem_of_getElem? (i := 8) rfl))) (hg (Cond.initialized "java/lang/IndexOutOfBoundsException") (wG_m1 (List.mem_of_getElem? (i := 12) rfl))) hstr (pg_hat xa_62 hg hKK.1) xo_62 hZ.1 hZ.2 hS (hl.1.trans hml.symm) d_PD_sync_7 d_PD_sync_10 d_PD_sync_11 d_PD_sync_13 d_PD_sync_16 (fun x h => (htab x h).elim) (Nat.le_of_ble_eq_true rfl) (Nat.le_of_ble_eq_true rfl) (Nat.le_of_ble_eq_true rfl) (Nat.le_of_ble_eq_true rfl) hlocks (fun t9 hy1 hy2 hy3 => ⟨("java/lang/IndexOutOfBoundsException", S), ⟨rfl, rfl, hno⟩, ⟨rfl, (px_end (Wf := fun S => pw n ad cI cB cE S) hK hP hD hS t9 hy1 hy2 hy3).1⟩, (px_end (Wf := fun S => pw n ad cI cB cE S) hK hP hD hS t9 hy1 hy2 hy3).2⟩) hS.2.2 (Nat.le_of_ble_eq_true rfl) (Nat.le_of_ble_eq_true rfl)
set_option maxHeartbeats 4000000 in
set_option maxRecDepth 100000 in
/-- crash -/
theorem c_PD_crash (l : Launch) (dC : Nat → ClassId) (dI : Nat → Nat → Nat) (cI cB cE cL cZ : ClassId) (hst : l.stackTraces = false) (n : Nat) (ad : Nat → Nat) (S : pdS) (f z : Int32) (hn : n ≤ 1024) (hv : pd_v n S) (ho : pd_ok n S (pd_ct S)) (hlw : pd_lo S) (sz : Nat) : CXi l (dC, dI) (pw_ty cI cB cE cL cZ) y_PD_crash w_PD_crash ({ frames := 6, cells := 1, slots := 6, locals := 127 }) [.ref (ad 0), .int f, .int z] (pw n ad cI cB cE S) (pw n ad cI cB cE) sz (fun r S2 => ∃ i k, i < 16 ∧ f = nI i ∧ k < 2 ^ 31 ∧ z = nI k ∧ r = nI (S2 4 (2 * i)) ∧ pd_fal S S2 i k ∧ pd_ok n S2 (pd_ct S2)) (fun E S2 => S2 = S ∧ ((E = "java/lang/IndexOutOfBoundsException" ∧ pd_nof f) ∨ (E = "java/lang/IllegalArgumentException" ∧ ∃ i, i < 16 ∧ f = nI i ∧ z < 0))) := by
  refine vx_ofW (cc := b_PD_crash) (maxL := 3) (ret := (some .int)) (by decide) rfl ?_
  intro p e s m args below meth c s₁ B hml htab hv
  obtain ⟨rfl, ⟨hsz, hP, hK, hD0⟩, hKK, hZ⟩ := hv
  have hx := B.exec
  have hb := B.bytes
  have hret := B.returns
  have hts := atoms_spec (ws := w_PD_crash) B.pre
  have hg : ∀ w ∈ wsG, w.before _ s = true := fun w h => hts w (List.mem_cons_of_mem _ h)
  have hown : s.vm.findClass "PageDrive" = some m.cls := findClass_of_methodNamed B.named
  have hlocks := B.notSynchronized
  subst hsz
  have hD := hD0.self (sz := s.heap.size)
  generalize hAe : va_A (pw n ad cI cB cE S) s.heap.size = A at hD hZ ⊢
  have hA : ∀ q : Nat, s.heap.size ≤ q → A q := fun q h => by rw [← hAe]; exact Or.inr h
  have hS : va_S A s.heap s.heap [] := va_S.rf
  have hl := lv_entry ([.ref (ad 0), .int f, .int z]) (n := 3) (Nat.le_of_ble_eq_true rfl)
  rw [lg_entry_eq]
  generalize (lg_sl ([.ref (ad 0), .int f, .int z]) ++ List.replicate (3 - (lg_sl ([.ref (ad 0), .int f, .int z])).length) Slot.unset).toArray = ls at hl ⊢
  have hl : lv_has ls 3 [(0, .ref (ad 0)), (1, .int f), (2, .int z)] := hl
  refine lv_iload_n hx hb d_PD_crash_0 rfl (lv_at hl 1 rfl) ?_
  refine pw_callip (va_runS (As := [.int f]) (rest := []) ⟨hx, hb, hml, hown, hg⟩ (c_PD_isFile l dC dI cI cB cE cL cZ (pw n ad cI cB cE S) f s.heap.size) (cwS 1 hg (gi_S (fun _ h => h) (wG_m7 (List.mem_of_getElem? (i := 5) rfl)) (wG_m7 (List.mem_of_getElem? (i := 6) rfl)) (wG_m1 (List.mem_of_getElem? (i := 1) rfl)) (wG_m7 (List.mem_of_getElem? (i := 7) rfl))) rfl rfl rfl (by decide +kernel) ⟨Nat.le_of_ble_eq_true rfl, Nat.le_of_ble_eq_true rfl⟩) (pw_ps hK hP hD [.int f]) rfl rfl hl.1 rfl (lv_room (Nat.le_of_ble_eq_true rfl)) d_PD_crash_1 ⟨Nat.le_of_ble_eq_true rfl, Nat.le_of_ble_eq_true rfl⟩) hD hS hA (fun r1 H locs hr hP hD hS => ?_)
  rcases hr with ⟨i, hi, rfl, rfl⟩ | ⟨hno, rfl⟩
  · refine pq_if_ne (tgt := 17) hx hb (by omega) d_PD_crash_4 (by decide) (fun _ => ?_) (fun h9 => absurd h9 (by omega))
    refine lv_iload_n hx hb d_PD_crash_17 rfl (lv_at hl 2 rfl) ?_
    refine lv_if_ge (tgt := 31) hx hb d_PD_crash_18 (by decide) (fun h1 => ?_) (fun h1 => ?_)
    · obtain ⟨k, hk, rfl⟩ := nI_of (Int32.not_lt.mpr h1)
      refine lv_aload_n hx hb d_PD_crash_31 rfl (lv_at hl 0 rfl) ?_
      refine lv_aload_n hx hb d_PD_crash_32 rfl (lv_at hl 0 rfl) ?_
      refine va_get (C := "PageDrive") (T := F_PD) (N := 4) hx hb hg iw_PD hown hK hP (0) pw_g0 rfl 1 (by decide) (hg (Cond.fieldLink "PageDrive" 29 "PageDrive" "entries" "[LPageDrive$Entry;") (wG_m3 (List.mem_of_getElem? (i := 18) rfl))) (fun _ h9 => h9) rfl d_PD_crash_33 ?_
      refine lv_iload_n hx hb d_PD_crash_36 rfl (lv_at hl 1 rfl) ?_
      refine pr_ent hx hb hK hP (i := i) (by omega) rfl d_PD_crash_37 ?_
      refine lv_iload_n hx hb d_PD_crash_38 rfl (lv_at hl 2 rfl) ?_
      refine pw_callv (va_runV (As := [.ref (ad (7 + i)), .int (nI k)]) (rest := []) ⟨hx, hb, hml, hown, hg⟩ (c_PD_fall l dC dI cI cB cE cL cZ n ad S i k hn hv ho hi (hlw i hi) hk H.size) (cwV 2 hg (gi_V (fun _ h => h) (wG_m4 (List.mem_of_getElem? (i := 0) rfl)) (wG_m4 (List.mem_of_getElem? (i := 1) rfl)) (wG_m14 (List.mem_of_getElem? (i := 0) rfl)) (wG_m1 (List.mem_of_getElem? (i := 1) rfl)) (wG_m4 (List.mem_of_getElem? (i := 2) rfl))) rfl rfl rfl (by decide +kernel) ⟨Nat.le_of_ble_eq_true rfl, Nat.le_of_ble_eq_true rfl⟩) (pw_pv hK hP hD (va_recv hK hP (ci := 0) (q0 := 0) rfl pw_g0) [.ref (ad (7 + i)), .int (nI k)]) rfl rfl hl.1 rfl (lv_room (Nat.le_of_ble_eq_true rfl)) d_PD_crash_39 ⟨Nat.le_of_ble_eq_true rfl, Nat.le_of_ble_eq_true rfl⟩) hD hS hA (fun S2 H locs hr hP hD hS => ?_)
      refine lv_aload_n hx hb d_PD_crash_42 rfl (lv_at hl 0 rfl) ?_
      refine va_get (C := "PageDrive") (T := F_PD) (N := 4) hx hb hg iw_PD hown hK hP (0) pw_g0 rfl 1 (by decide) (hg (Cond.fieldLink "PageDrive" 29 "PageDrive" "entries" "[LPageDrive$Entry;") (wG_m3 (List.mem_of_getElem? (i := 18) rfl))) (fun _ h9 => h9) rfl d_PD_crash_43 ?_
      refine lv_iload_n hx hb d_PD_crash_46 rfl (lv_at hl 1 rfl) ?_
      refine pr_ent hx hb hK hP (i := i) (by omega) rfl d_PD_crash_47 ?_
      refine va_get (C := "PageDrive$Entry") (T := F_EN) (N := 3) hx hb hg iw_EN hown hK hP (7 + i) (pw_gE (i := i) (by omega)) rfl 0 (by decide) (hg (Cond.fieldLink "PageDrive" 63 "PageDrive$Entry" "now" "LPageDrive$Content;") (wG_m3 (List.mem_of_getElem? (i := 5) rfl))) (fun _ h9 => h9) rfl d_PD_crash_48 ?_
      refine va_get (C := "PageDrive$Content") (T := F_CO) (N := 3) hx hb hg iw_CO hown hK hP (23 + (2 * i)) (pw_gC (i := 2 * i) (by omega)) rfl 1 (by decide) (hg (Cond.fieldLink "PageDrive" 67 "PageDrive$Content" "size" "I") (wG_m2 (List.mem_of_getElem? (i := 34) rfl))) (fun _ h9 => h9) rfl d_PD_crash_51 ?_
      refine W.widen (k := 1) (n := 6) (by omega) (by omega) ?_
      exact vx_ret (W.iret (v := (nI (S2 4 (2 * i)))) hx hb hret (fun t9 ht9 hW9 => ⟨⟨_, _, rfl, ⟨i, k, hi, rfl, hk, rfl, rfl, hr.1, hr.2⟩, by rw [ht9]; exact hP, va_K.moved hW9.alike hK, hD⟩, hS.F ht9⟩) hS.2.2 d_PD_crash_54)
    · obtain ⟨sa, hstr⟩ := hKK.2.1 (123, "keep is below 0") (by decide +kernel)
      exact vx_throwS hx hb hst hown (cls := "java/lang/IllegalArgumentException") (names := pgNm) xf_46 xn_nm (hg (Cond.classLink "PageDrive" 42 "java/lang/IllegalArgumentException") (wG_m5 (List.mem_of_getElem? (i := 5) rfl))) (hg (Cond.initialized "java/lang/IllegalArgumentException") (wG_m1 (List.mem_of_getElem? (i := 10) rfl))) hstr (pg_hat xa_46 hg hKK.1) xo_46 hZ.1 hZ.2 hS (hl.1.trans hml.symm) d_PD_crash_21 d_PD_crash_24 d_PD_crash_25 d_PD_crash_27 d_PD_crash_30 (fun x h => (htab x h).elim) (Nat.le_of_ble_eq_true rfl) (Nat.le_of_ble_eq_true rfl) (Nat.le_of_ble_eq_true rfl) (Nat.le_of_ble_eq_true rfl) hlocks (fun t9 hy1 hy2 hy3 => ⟨("java/lang/IllegalArgumentException", S), ⟨rfl, Or.inr ⟨rfl, i, hi, rfl, Int32.not_le.mp h1⟩⟩, ⟨rfl, (px_end (Wf := fun S => pw n ad cI cB cE S) hK hP hD hS t9 hy1 hy2 hy3).1⟩, (px_end (Wf := fun S => pw n ad cI cB cE S) hK hP hD hS t9 hy1 hy2 hy3).2⟩) hS.2.2 (Nat.le_of_ble_eq_true rfl) (Nat.le_of_ble_eq_true rfl)
  · refine pq_if_ne (tgt := 17) hx hb (by omega) d_PD_crash_4 (by decide) (fun h9 => absurd h9 (by omega)) (fun _ => ?_)
    obtain ⟨sa, hstr⟩ := hKK.2.1 (89, "no such file number") (by decide +kernel)
    exact vx_throwS hx hb hst hown (cls := "java/lang/IndexOutOfBoundsException") (names := pgNm) xf_62 xn_nm (hg (Cond.classLink "PageDrive" 58 "java/lang/IndexOutOfBoundsException") (wG_m7 (List.mem_of_getElem? (i := 8) rfl))) (hg (Cond.initialized "java/lang/IndexOutOfBoundsException") (wG_m1 (List.mem_of_getElem? (i := 12) rfl))) hstr (pg_hat xa_62 hg hKK.1) xo_62 hZ.1 hZ.2 hS (hl.1.trans hml.symm) d_PD_crash_7 d_PD_crash_10 d_PD_crash_11 d_PD_crash_13 d_PD_crash_16 (fun x h => (htab x h).elim) (Nat.le_of_ble_eq_true rfl) (Nat.le_of_ble_eq_true rfl) (Nat.le_of_ble_eq_true rfl) (Nat.le_of_ble_eq_true rfl) hlocks (fun t9 hy1 hy2 hy3 => ⟨("java/lang/IndexOutOfBoundsException", S), ⟨rfl, Or.inl ⟨rfl, hno⟩⟩, ⟨rfl, (px_end (Wf := fun S => pw n ad cI cB cE S) hK hP hD hS t9 hy1 hy2 hy3).1⟩, (px_end (Wf := fun S => pw n ad cI cB cE S) hK hP hD hS t9 hy1 hy2 hy3).2⟩) hS.2.2 (Nat.le_of_ble_eq_true rfl) (Nat.le_of_ble_eq_true rfl)
set_option maxHeartbeats 4000000 in
set_option maxRecDepth 100000 in
/-- twin -/
theorem c_PD_twin (l : Launch) (dC : Nat → ClassId) (dI : Nat → Nat → Nat) (cI cB cE cL cZ : ClassId) (hst : l.stackTraces = false) (n : Nat) (ad : Nat → Nat) (S : pdS) (f z : Int32) (hn : n ≤ 1024) (hv : pd_v n S) (ho : pd_ok n S (pd_ct S)) (sz : Nat) : CXi l (dC, dI) (pw_ty cI cB cE cL cZ) y_PD_twin w_PD_twin ({ frames := 6, cells := 1, slots := 6, locals := 84 }) [.ref (ad 0), .int f, .int z] (pw n ad cI cB cE S) (pw n ad cI cB cE) sz (fun r S2 => ∃ i j, i < 16 ∧ f = nI i ∧ j < 16 ∧ z = nI j ∧ S 5 (2 * i) ≠ 0 ∧ r = nI (S 4 (2 * i)) ∧ pd_twi S S2 i j ∧ pd_ok n S2 (pd_ct S2)) (fun E S2 => S2 = S ∧ ((E = "java/lang/IndexOutOfBoundsException" ∧ (pd_nof f ∨ pd_nof z)) ∨ (E = "java/util/NoSuchElementException" ∧ ∃ i j, i < 16 ∧ f = nI i ∧ j < 16 ∧ z = nI j ∧ S 5 (2 * i) = 0))) := by
  refine vx_ofW (cc := b_PD_twin) (maxL := 4) (ret := (some .int)) (by decide) rfl ?_
  intro p e s m args below meth c s₁ B hml htab hv
  obtain ⟨rfl, ⟨hsz, hP, hK, hD0⟩, hKK, hZ⟩ := hv
  have hx := B.exec
  have hb := B.bytes
  have hret := B.returns
  have hts := atoms_spec (ws := w_PD_twin) B.pre
  have hg : ∀ w ∈ wsG, w.before _ s = true := fun w h => hts w (List.mem_cons_of_mem _ h)
  have hown : s.vm.findClass "PageDrive" = some m.cls := findClass_of_methodNamed B.named
  have hlocks := B.notSynchronized
  subst hsz
  have hD := hD0.self (sz := s.heap.size)
  generalize hAe : va_A (pw n ad cI cB cE S) s.heap.size = A at hD hZ ⊢
  have hA : ∀ q : Nat, s.heap.size ≤ q → A q := fun q h => by rw [← hAe]; exact Or.inr h
  have hS : va_S A s.heap s.heap [] := va_S.rf
  have hl := lv_entry ([.ref (ad 0), .int f, .int z]) (n := 4) (Nat.le_of_ble_eq_true rfl)
  rw [lg_entry_eq]
  generalize (lg_sl ([.ref (ad 0), .int f, .int z]) ++ List.replicate (4 - (lg_sl ([.ref (ad 0), .int f, .int z])).length) Slot.unset).toArray = ls at hl ⊢
  have hl : lv_has ls 4 [(0, .ref (ad 0)), (1, .int f), (2, .int z)] := hl
  refine lv_iload_n hx hb d_PD_twin_0 rfl (lv_at hl 1 rfl) ?_
  refine pw_callip (va_runS (As := [.int f]) (rest := []) ⟨hx, hb, hml, hown, hg⟩ (c_PD_isFile l dC dI cI cB cE cL cZ (pw n ad cI cB cE S) f s.heap.size) (cwS 1 hg (gi_S (fun _ h => h) (wG_m7 (List.mem_of_getElem? (i := 5) rfl)) (wG_m7 (List.mem_of_getElem? (i := 6) rfl)) (wG_m1 (List.mem_of_getElem? (i := 1) rfl)) (wG_m7 (List.mem_of_getElem? (i := 7) rfl))) rfl rfl rfl (by decide +kernel) ⟨Nat.le_of_ble_eq_true rfl, Nat.le_of_ble_eq_true rfl⟩) (pw_ps hK hP hD [.int f]) rfl rfl hl.1 rfl (lv_room (Nat.le_of_ble_eq_true rfl)) d_PD_twin_1 ⟨Nat.le_of_ble_eq_true rfl, Nat.le_of_ble_eq_true rfl⟩) hD hS hA (fun r1 H locs hr hP hD hS => ?_)
  rcases hr with ⟨i, hi, rfl, rfl⟩ | ⟨hno, rfl⟩
  · refine pq_if_eq (tgt := 14) hx hb (by omega) d_PD_twin_4 (by decide) (fun h9 => absurd h9 (by omega)) (fun _ => ?_)
    refine lv_iload_n hx hb d_PD_twin_7 rfl (lv_at hl 2 rfl) ?_
    refine pw_callip (va_runS (As := [.int z]) (rest := []) ⟨hx, hb, hml, hown, hg⟩ (c_PD_isFile l dC dI cI cB cE cL cZ (pw n ad cI cB cE S) z H.size) (cwS 1 hg (gi_S (fun _ h => h) (wG_m7 (List.mem_of_getElem? (i := 5) rfl)) (wG_m7 (List.mem_of_getElem? (i := 6) rfl)) (wG_m1 (List.mem_of_getElem? (i := 1) rfl)) (wG_m7 (List.mem_of_getElem? (i := 7) rfl))) rfl rfl rfl (by decide +kernel) ⟨Nat.le_of_ble_eq_true rfl, Nat.le_of_ble_eq_true rfl⟩) (pw_ps hK hP hD [.int z]) rfl rfl hl.1 rfl (lv_room (Nat.le_of_ble_eq_true rfl)) d_PD_twin_8 ⟨Nat.le_of_ble_eq_true rfl, Nat.le_of_ble_eq_true rfl⟩) hD hS hA (fun r2 H locs hr hP hD hS => ?_)
    rcases hr with ⟨j, hj, rfl, rfl⟩ | ⟨hno, rfl⟩
    · refine pq_if_ne (tgt := 24) hx hb (by omega) d_PD_twin_11 (by decide) (fun _ => ?_) (fun h9 => absurd h9 (by omega))
      have hs5 := (hv.1 (2 * i) (by omega)).2.1
      refine lv_aload_n hx hb d_PD_twin_24 rfl (lv_at hl 0 rfl) ?_
      refine va_get (C := "PageDrive") (T := F_PD) (N := 4) hx hb hg iw_PD hown hK hP (0) pw_g0 rfl 1 (by decide) (hg (Cond.fieldLink "PageDrive" 29 "PageDrive" "entries" "[LPageDrive$Entry;") (wG_m3 (List.mem_of_getElem? (i := 18) rfl))) (fun _ h9 => h9) rfl d_PD_twin_25 ?_
      refine lv_iload_n hx hb d_PD_twin_28 rfl (lv_at hl 1 rfl) ?_
      refine pr_ent hx hb hK hP (i := i) (by omega) rfl d_PD_twin_29 ?_
      refine va_get (C := "PageDrive$Entry") (T := F_EN) (N := 3) hx hb hg iw_EN hown hK hP (7 + i) (pw_gE (i := i) (by omega)) rfl 0 (by decide) (hg (Cond.fieldLink "PageDrive" 63 "PageDrive$Entry" "now" "LPageDrive$Content;") (wG_m3 (List.mem_of_getElem? (i := 5) rfl))) (fun _ h9 => h9) rfl d_PD_twin_30 ?_
      refine va_get (C := "PageDrive$Content") (T := F_CO) (N := 3) hx hb hg iw_CO hown hK hP (23 + (2 * i)) (pw_gC (i := 2 * i) (by omega)) rfl 2 (by decide) (hg (Cond.fieldLink "PageDrive" 91 "PageDrive$Content" "there" "Z") (wG_m2 (List.mem_of_getElem? (i := 36) rfl))) (fun _ h9 => h9) rfl d_PD_twin_33 ?_
      refine pq_if_ne (tgt := 49) hx hb (by omega) d_PD_twin_36 (by decide) (fun h1 => ?_) (fun h1 => ?_)
      · refine lv_aload_n hx hb d_PD_twin_49 rfl (lv_at hl 0 rfl) ?_
        refine va_get (C := "PageDrive") (T := F_PD) (N := 4) hx hb hg iw_PD hown hK hP (0) pw_g0 rfl 1 (by decide) (hg (Cond.fieldLink "PageDrive" 29 "PageDrive" "entries" "[LPageDrive$Entry;") (wG_m3 (List.mem_of_getElem? (i := 18) rfl))) (fun _ h9 => h9) rfl d_PD_twin_50 ?_
        refine lv_iload_n hx hb d_PD_twin_53 rfl (lv_at hl 2 rfl) ?_
        refine pr_ent hx hb hK hP (i := j) (by omega) rfl d_PD_twin_54 ?_
        refine lv_astore_n (lv' := [(3, .ref (ad (7 + j))), (0, .ref (ad 0)), (1, .int (nI i)), (2, .int (nI j))]) hx hb d_PD_twin_55 rfl hl (by decide) rfl (fun ls hl => ?_)
        refine lv_aload_n hx hb d_PD_twin_56 rfl (lv_at hl 1 rfl) ?_
        refine lv_aload_n hx hb d_PD_twin_57 rfl (lv_at hl 0 rfl) ?_
        refine va_get (C := "PageDrive$Entry") (T := F_EN) (N := 3) hx hb hg iw_EN hown hK hP (7 + j) (pw_gE (i := j) (by omega)) rfl 0 (by decide) (hg (Cond.fieldLink "PageDrive" 63 "PageDrive$Entry" "now" "LPageDrive$Content;") (wG_m3 (List.mem_of_getElem? (i := 5) rfl))) (fun _ h9 => h9) rfl d_PD_twin_58 ?_
        refine lv_aload_n hx hb d_PD_twin_61 rfl (lv_at hl 1 rfl) ?_
        refine va_get (C := "PageDrive") (T := F_PD) (N := 4) hx hb hg iw_PD hown hK hP (0) pw_g0 rfl 1 (by decide) (hg (Cond.fieldLink "PageDrive" 29 "PageDrive" "entries" "[LPageDrive$Entry;") (wG_m3 (List.mem_of_getElem? (i := 18) rfl))) (fun _ h9 => h9) rfl d_PD_twin_62 ?_
        refine lv_iload_n hx hb d_PD_twin_65 rfl (lv_at hl 2 rfl) ?_
        refine pr_ent hx hb hK hP (i := i) (by omega) rfl d_PD_twin_66 ?_
        refine va_get (C := "PageDrive$Entry") (T := F_EN) (N := 3) hx hb hg iw_EN hown hK hP (7 + i) (pw_gE (i := i) (by omega)) rfl 0 (by decide) (hg (Cond.fieldLink "PageDrive" 63 "PageDrive$Entry" "now" "LPageDrive$Content;") (wG_m3 (List.mem_of_getElem? (i := 5) rfl))) (fun _ h9 => h9) rfl d_PD_twin_67 ?_
        refine pw_callv (va_runV (As := [.ref (ad (23 + 2 * j)), .ref (ad (23 + 2 * i))]) (rest := []) ⟨hx, hb, hml, hown, hg⟩ (c_PD_become l dC dI cI cB cE cL cZ n ad S (2 * j) (2 * i) hn hv ho (by omega) (by omega) H.size) (cwV 2 hg (gi_V (fun _ h => h) (wG_m4 (List.mem_of_getElem? (i := 3) rfl)) (wG_m4 (List.mem_of_getElem? (i := 4) rfl)) (wG_m14 (List.mem_of_getElem? (i := 1) rfl)) (wG_m1 (List.mem_of_getElem? (i := 1) rfl)) (wG_m4 (List.mem_of_getElem? (i := 5) rfl))) rfl rfl rfl (by decide +kernel) ⟨Nat.le_of_ble_eq_true rfl, Nat.le_of_ble_eq_true rfl⟩) (pw_pv hK hP hD (va_recv hK hP (ci := 0) (q0 := 0) rfl pw_g0) [.ref (ad (23 + 2 * j)), .ref (ad (23 + 2 * i))]) rfl rfl hl.1 rfl (lv_room (Nat.le_of_ble_eq_true rfl)) d_PD_twin_70 ⟨Nat.le_of_ble_eq_true rfl, Nat.le_of_ble_eq_true rfl⟩) hD hS hA (fun T H locs hr hP hD hS => ?_)
        obtain ⟨hbe, hoT⟩ := hr
        refine lv_aload_n hx hb d_PD_twin_73 rfl (lv_at hl 0 rfl) ?_
        refine lv_iconst (v := nI 0) hx hb d_PD_twin_74 (by decide) ?_
        refine pr_low hx hb hg hown hK hP hD hS (i := j) (by omega) (hg (Cond.fieldLink "PageDrive" 105 "PageDrive$Entry" "low" "I") (wG_m3 (List.mem_of_getElem? (i := 9) rfl))) d_PD_twin_75 (fun H locs hP hD hS => ?_)
        generalize eS3 : pd_st T 6 j 0 = S3 at hP hD
        refine lv_aload_n hx hb d_PD_twin_78 rfl (lv_at hl 0 rfl) ?_
        refine va_get (C := "PageDrive$Entry") (T := F_EN) (N := 3) hx hb hg iw_EN hown hK hP (7 + j) (pw_gE (i := j) (by omega)) rfl 0 (by decide) (hg (Cond.fieldLink "PageDrive" 63 "PageDrive$Entry" "now" "LPageDrive$Content;") (wG_m3 (List.mem_of_getElem? (i := 5) rfl))) (fun _ h9 => h9) rfl d_PD_twin_79 ?_
        refine va_get (C := "PageDrive$Content") (T := F_CO) (N := 3) hx hb hg iw_CO hown hK hP (23 + (2 * j)) (pw_gC (i := 2 * j) (by omega)) rfl 1 (by decide) (hg (Cond.fieldLink "PageDrive" 67 "PageDrive$Content" "size" "I") (wG_m2 (List.mem_of_getElem? (i := 34) rfl))) (fun _ h9 => h9) rfl d_PD_twin_82 ?_
        have hct : ∀ q, pd_ct S3 q = pd_ct T q := fun q => by rw [← eS3]; exact pd_ct_congr (pd_bk _ (by decide)) (fun d _ k _ => by rw [pd_bk _ (by omega)]) q
        refine pq_top (y := nI (S 4 (2 * i))) (by rw [← eS3, pd_bk _ (by decide), hbe.2.2.1, va_up_self]) ?_
        refine W.widen (k := 1) (n := 6) (by omega) (by omega) ?_
        exact vx_ret (W.iret (v := (nI (S 4 (2 * i)))) hx hb hret (fun t9 ht9 hW9 => ⟨⟨_, _, rfl, ⟨i, j, hi, rfl, hj, rfl, h1, rfl, ⟨T, hbe, by rw [eS3]; exact pd_sa_rf _⟩, pd_ok_congr (by rw [← eS3]; exact pd_ok_st hoT (by decide) (by decide) (Or.inl (by decide))) (fun q _ => (hct q).symm)⟩, by rw [ht9]; exact hP, va_K.moved hW9.alike hK, hD⟩, hS.F ht9⟩) hS.2.2 d_PD_twin_85)
      · obtain ⟨sa, hstr⟩ := hKK.2.1 (97, "the file is not there") (by decide +kernel)
        exact vx_throwNS hx hb hst hown (hg (Cond.classLink "PageDrive" 95 "java/util/NoSuchElementException") (wG_m8 (List.mem_of_getElem? (i := 35) rfl))) (hg (Cond.initialized "java/util/NoSuchElementException") (wG_m1 (List.mem_of_getElem? (i := 15) rfl))) hstr hg hKK.1 hZ.1 hZ.2 hS (hl.1.trans hml.symm) d_PD_twin_39 d_PD_twin_42 d_PD_twin_43 d_PD_twin_45 d_PD_twin_48 (fun x h => (htab x h).elim) (Nat.le_of_ble_eq_true rfl) (Nat.le_of_ble_eq_true rfl) (Nat.le_of_ble_eq_true rfl) (Nat.le_of_ble_eq_true rfl) hlocks (fun t9 hy1 hy2 hy3 => ⟨("java/util/NoSuchElementException", S), ⟨rfl, Or.inr ⟨rfl, i, j, hi, rfl, hj, rfl, h1⟩⟩, ⟨rfl, (px_end (Wf := fun S => pw n ad cI cB cE S) hK hP hD hS t9 hy1 hy2 hy3).1⟩, (px_end (Wf := fun S => pw n ad cI cB cE S) hK hP hD hS t9 hy1 hy2 hy3).2⟩) hS.2.2 (Nat.le_of_ble_eq_true rfl) (Nat.le_of_ble_eq_true rfl)
    · refine pq_if_ne (tgt := 24) hx hb (by omega) d_PD_twin_11 (by decide) (fun h9 => absurd h9 (by omega)) (fun _ => ?_)
      obtain ⟨sa, hstr⟩ := hKK.2.1 (89, "no such file number") (by decide +kernel)
      exact vx_throwS hx hb hst hown (cls := "java/lang/IndexOutOfBoundsException") (names := pgNm) xf_62 xn_nm (hg (Cond.classLink "PageDrive" 58 "java/lang/IndexOutOfBoundsException") (wG_m7 (List.mem_of_getElem? (i := 8) rfl))) (hg (Cond.initialized "java/lang/IndexOutOfBoundsException") (wG_m1 (List.mem_of_getElem? (i := 12) rfl))) hstr (pg_hat xa_62 hg hKK.1) xo_62 hZ.1 hZ.2 hS (hl.1.trans hml.symm) d_PD_twin_14 d_PD_twin_17 d_PD_twin_18 d_PD_twin_20 d_PD_twin_23 (fun x h => (htab x h).elim) (Nat.le_of_ble_eq_true rfl) (Nat.le_of_ble_eq_true rfl) (Nat.le_of_ble_eq_true rfl) (Nat.le_of_ble_eq_true rfl) hlocks (fun t9 hy1 hy2 hy3 => ⟨("java/lang/IndexOutOfBoundsException", S), ⟨rfl, Or.inl ⟨rfl, Or.inr hno⟩⟩, ⟨rfl, (px_end (Wf := fun S => pw n ad cI cB cE S) hK hP hD hS t9 hy1 hy2 hy3).1⟩, (px_end (Wf := fun S => pw n ad cI cB cE S) hK hP hD hS t9 hy1 hy2 hy3).2⟩) hS.2.2 (Nat.le_of_ble_eq_true rfl) (Nat.le_of_ble_eq_true rfl)
  · refine pq_if_eq (tgt := 14) hx hb (by omega) d_PD_twin_4 (by decide) (fun _ => ?_) (fun h9 => absurd h9 (by omega))
    obtain ⟨sa, hstr⟩ := hKK.2.1 (89, "no such file number") (by decide +kernel)
    exact vx_throwS hx hb hst hown (cls := "java/lang/IndexOutOfBoundsException") (names := pgNm) xf_62 xn_nm (hg (Cond.classLink "PageDrive" 58 "java/lang/IndexOutOfBoundsException") (wG_m7 (List.mem_of_getElem? (i := 8) rfl))) (hg (Cond.initialized "java/lang/IndexOutOfBoundsException") (wG_m1 (List.mem_of_getElem? (i := 12) rfl))) hstr (pg_hat xa_62 hg hKK.1) xo_62 hZ.1 hZ.2 hS (hl.1.trans hml.symm) d_PD_twin_14 d_PD_twin_17 d_PD_twin_18 d_PD_twin_20 d_PD_twin_23 (fun x h => (htab x h).elim) (Nat.le_of_ble_eq_true rfl) (Nat.le_of_ble_eq_true rfl) (Nat.le_of_ble_eq_true rfl) (Nat.le_of_ble_eq_true rfl) hlocks (fun t9 hy1 hy2 hy3 => ⟨("java/lang/IndexOutOfBoundsException", S), ⟨rfl, Or.inl ⟨rfl, Or.inl hno⟩⟩, ⟨rfl, (px_end (Wf := fun S => pw n ad cI cB cE S) hK hP hD hS t9 hy1 hy2 hy3).1⟩, (px_end (Wf := fun S => pw n ad cI cB cE S) hK hP hD hS t9 hy1 hy2 hy3).2⟩) hS.2.2 (Nat.le_of_ble_eq_true rfl) (Nat.le_of_ble_eq_true rfl)
end
section
/-! THE CLASS, 8: file, byteAt, count, crashAll -/
set_option maxHeartbeats 4000000 in
set_option maxRecDepth 100000 in
/-- file -/
theorem c_PD_file (l : Launch) (dC : Nat → ClassId) (dI : Nat → Nat → Nat) (cI cB cE cL cZ : ClassId) (hst : l.stackTraces = false) (n : Nat) (ad : Nat → Nat) (S : pdS) (f z : Int32) (hn : n ≤ 1024) (hv : pd_v n S) (ho : pd_ok n S (pd_ct S)) (sz : Nat) : CXi l (dC, dI) (pw_ty cI cB cE cL cZ) y_PD_file w_PD_file ({ frames := 6, cells := 1, slots := 6, locals := 82 }) [.ref (ad 0), .int f, .int z] (pw n ad cI cB cE S) (pw n ad cI cB cE) sz (fun r S2 => S2 = S ∧ ∃ i w, i < 16 ∧ f = nI i ∧ w ≤ 7 ∧ z = nI w ∧ r = nI (pd_fi S i w)) (fun E S2 => S2 = S ∧ E = "java/lang/IndexOutOfBoundsException" ∧ (pd_nof f ∨ ∀ w, w ≤ 7 → z ≠ nI w)) := by
  refine vx_ofW (cc := b_PD_file) (maxL := 4) (ret := (some .int)) (by decide) rfl ?_
  intro p e s m args below meth c s₁ B hml htab hv
  obtain ⟨rfl, ⟨hsz, hP, hK, hD0⟩, hKK, hZ⟩ := hv
  have hx := B.exec
  have hb := B.bytes
  have hret := B.returns
  have hts := atoms_spec (ws := w_PD_file) B.pre
  have hg : ∀ w ∈ wsG, w.before _ s = true := fun w h => hts w (List.mem_cons_of_mem _ h)
  have hown : s.vm.findClass "PageDrive" = some m.cls := findClass_of_methodNamed B.named
  have hlocks := B.notSynchronized
  subst hsz
  have hD := hD0.self (sz := s.heap.size)
  generalize hAe : va_A (pw n ad cI cB cE S) s.heap.size = A at hD hZ ⊢
  have hA : ∀ q : Nat, s.heap.size ≤ q → A q := fun q h => by rw [← hAe]; exact Or.inr h
  have hS : va_S A s.heap s.heap [] := va_S.rf
  have hl := lv_entry ([.ref (ad 0), .int f, .int z]) (n := 4) (Nat.le_of_ble_eq_true rfl)
  rw [lg_entry_eq]
  generalize (lg_sl ([.ref (ad 0), .int f, .int z]) ++ List.replicate (4 - (lg_sl ([.ref (ad 0), .int f, .int z])).length) Slot.unset).toArray = ls at hl ⊢
  have hl : lv_has ls 4 [(0, .ref (ad 0)), (1, .int f), (2, .int z)] := hl
  refine lv_iload_n hx hb d_PD_file_0 rfl (lv_at hl 1 rfl) ?_
  refine pw_callip (va_runS (As := [.int f]) (rest := []) ⟨hx, hb, hml, hown, hg⟩ (c_PD_isFile l dC dI cI cB cE cL cZ (pw n ad cI cB cE S) f s.heap.size) (cwS 1 hg (gi_S (fun _ h => h) (wG_m7 (List.mem_of_getElem? (i := 5) rfl)) (wG_m7 (List.mem_of_getElem? (i := 6) rfl)) (wG_m1 (List.mem_of_getElem? (i := 1) rfl)) (wG_m7 (List.mem_of_getElem? (i := 7) rfl))) rfl rfl rfl (by decide +kernel) ⟨Nat.le_of_ble_eq_true rfl, Nat.le_of_ble_eq_true rfl⟩) (pw_ps hK hP hD [.int f]) rfl rfl hl.1 rfl (lv_room (Nat.le_of_ble_eq_true rfl)) d_PD_file_1 ⟨Nat.le_of_ble_eq_true rfl, Nat.le_of_ble_eq_true rfl⟩) hD hS hA (fun r1 H locs hr hP hD hS => ?_)
  rcases hr with ⟨i, hi, rfl, rfl⟩ | ⟨hno, rfl⟩
  · refine pq_if_eq (tgt := 17) hx hb (by omega) d_PD_file_4 (by decide) (fun h9 => absurd h9 (by omega)) (fun _ => ?_)
    refine lv_iload_n hx hb d_PD_file_7 rfl (lv_at hl 2 rfl) ?_
    refine lv_if_lt (tgt := 17) hx hb d_PD_file_8 (by decide) (fun h1 => ?_) (fun h1 => ?_)
    · obtain ⟨sa, hstr⟩ := hKK.2.1 (141, "no such file number, or nothing to be asked of it") (by decide +kernel)
      exact vx_throwS hx hb hst hown (cls := "java/lang/IndexOutOfBoundsException") (names := pgNm) xf_62 xn_nm (hg (Cond.classLink "PageDrive" 58 "java/lang/IndexOutOfBoundsException") (wG_m7 (List.mem_of_getElem? (i := 8) rfl))) (hg (Cond.initialized "java/lang/IndexOutOfBoundsException") (wG_m1 (List.mem_of_getElem? (i := 12) rfl))) hstr (pg_hat xa_62 hg hKK.1) xo_62 hZ.1 hZ.2 hS (hl.1.trans hml.symm) d_PD_file_17 d_PD_file_20 d_PD_file_21 d_PD_file_23 d_PD_file_26 (fun x h => (htab x h).elim) (Nat.le_of_ble_eq_true rfl) (Nat.le_of_ble_eq_true rfl) (Nat.le_of_ble_eq_true rfl) (Nat.le_of_ble_eq_true rfl) hlocks (fun t9 hy1 hy2 hy3 => ⟨("java/lang/IndexOutOfBoundsException", S), ⟨rfl, rfl, Or.inr (fun w hw => pd_below (a := 0) h1 w (by omega) (by omega))⟩, ⟨rfl, (px_end (Wf := fun S => pw n ad cI cB cE S) hK hP hD hS t9 hy1 hy2 hy3).1⟩, (px_end (Wf := fun S => pw n ad cI cB cE S) hK hP hD hS t9 hy1 hy2 hy3).2⟩) hS.2.2 (Nat.le_of_ble_eq_true rfl) (Nat.le_of_ble_eq_true rfl)
    · refine lv_iload_n hx hb d_PD_file_11 rfl (lv_at hl 2 rfl) ?_
      refine lv_bipush (v := nI 7) hx hb d_PD_file_12 (by decide) ?_
      refine lv_icmp_le (tgt := 27) hx hb d_PD_file_14 (by decide) (fun h2 => ?_) (fun h2 => ?_)
      · obtain ⟨w0, hw1, hw2, rfl⟩ := pd_rng (a := 0) (b := 7) (by decide) (by decide) h1 (fun q => Int32.lt_irrefl (Int32.lt_of_le_of_lt h2 q))
        have hs4 := (hv.1 (2 * i) (by omega)).1
        have hs5 := (hv.1 (2 * i) (by omega)).2.1
        have hs4s := (hv.1 (2 * i + 1) (by omega)).1
        have hs5s := (hv.1 (2 * i + 1) (by omega)).2.1
        refine lv_aload_n hx hb d_PD_file_27 rfl (lv_at hl 0 rfl) ?_
        refine va_get (C := "PageDrive") (T := F_PD) (N := 4) hx hb hg iw_PD hown hK hP (0) pw_g0 rfl 1 (by decide) (hg (Cond.fieldLink "PageDrive" 29 "PageDrive" "entries" "[LPageDrive$Entry;") (wG_m3 (List.mem_of_getElem? (i := 18) rfl))) (fun _ h9 => h9) rfl d_PD_file_28 ?_
        refine lv_iload_n hx hb d_PD_file_31 rfl (lv_at hl 1 rfl) ?_
        refine pr_ent hx hb hK hP (i := i) (by omega) rfl d_PD_file_32 ?_
        refine lv_astore_n (lv' := [(3, .ref (ad (7 + i))), (0, .ref (ad 0)), (1, .int (nI i)), (2, .int (nI w0))]) hx hb d_PD_file_33 rfl hl (by decide) rfl (fun ls hl => ?_)
        refine lv_iload_n hx hb d_PD_file_34 rfl (lv_at hl 3 rfl) ?_
        rcases (show w0 = 0 ∨ w0 = 1 ∨ w0 = 2 ∨ w0 = 3 ∨ w0 = 4 ∨ w0 = 5 ∨ w0 = 6 ∨ w0 = 7 by omega) with rfl | rfl | rfl | rfl | rfl | rfl | rfl | rfl
        · refine lv_tableIn (tgt := 76) hx hb d_PD_file_35 (by decide) (by decide) rfl (by decide) ?_
          refine lv_aload_n hx hb d_PD_file_76 rfl (lv_at hl 0 rfl) ?_
          refine va_get (C := "PageDrive$Entry") (T := F_EN) (N := 3) hx hb hg iw_EN hown hK hP (7 + i) (pw_gE (i := i) (by omega)) rfl 0 (by decide) (hg (Cond.fieldLink "PageDrive" 63 "PageDrive$Entry" "now" "LPageDrive$Content;") (wG_m3 (List.mem_of_getElem? (i := 5) rfl))) (fun _ h9 => h9) rfl d_PD_file_77 ?_
          refine va_get (C := "PageDrive$Content") (T := F_CO) (N := 3) hx hb hg iw_CO hown hK hP (23 + (2 * i)) (pw_gC (i := 2 * i) (by omega)) rfl 1 (by decide) (hg (Cond.fieldLink "PageDrive" 67 "PageDrive$Content" "size" "I") (wG_m2 (List.mem_of_getElem? (i := 34) rfl))) (fun _ h9 => h9) rfl d_PD_file_80 ?_
          refine W.widen (k := 1) (n := 6) (by omega) (by omega) ?_
          exact vx_ret (W.iret (v := (nI (S 4 (2 * i)))) hx hb hret (fun t9 ht9 hW9 => ⟨⟨_, _, rfl, ⟨rfl, i, 0, hi, rfl, by omega, rfl, rfl⟩, by rw [ht9]; exact hP, va_K.moved hW9.alike hK, hD⟩, hS.F ht9⟩) hS.2.2 d_PD_file_83)
        · refine lv_tableIn (tgt := 84) hx hb d_PD_file_35 (by decide) (by decide) rfl (by decide) ?_
          refine lv_aload_n hx hb d_PD_file_84 rfl (lv_at hl 0 rfl) ?_
          refine va_get (C := "PageDrive$Entry") (T := F_EN) (N := 3) hx hb hg iw_EN hown hK hP (7 + i) (pw_gE (i := i) (by omega)) rfl 1 (by decide) (hg (Cond.fieldLink "PageDrive" 112 "PageDrive$Entry" "synced" "LPageDrive$Content;") (wG_m3 (List.mem_of_getElem? (i := 7) rfl))) (fun _ h9 => h9) rfl d_PD_file_85 ?_
          refine va_get (C := "PageDrive$Content") (T := F_CO) (N := 3) hx hb hg iw_CO hown hK hP (23 + (2 * i + 1)) (pw_gC (i := 2 * i + 1) (by omega)) rfl 1 (by decide) (hg (Cond.fieldLink "PageDrive" 67 "PageDrive$Content" "size" "I") (wG_m2 (List.mem_of_getElem? (i := 34) rfl))) (fun _ h9 => h9) rfl d_PD_file_88 ?_
          refine W.widen (k := 1) (n := 6) (by omega) (by omega) ?_
          exact vx_ret (W.iret (v := (nI (S 4 (2 * i + 1)))) hx hb hret (fun t9 ht9 hW9 => ⟨⟨_, _, rfl, ⟨rfl, i, 1, hi, rfl, by omega, rfl, rfl⟩, by rw [ht9]; exact hP, va_K.moved hW9.alike hK, hD⟩, hS.F ht9⟩) hS.2.2 d_PD_file_91)
        · refine lv_tableIn (tgt := 92) hx hb d_PD_file_35 (by decide) (by decide) rfl (by decide) ?_
          refine lv_aload_n hx hb d_PD_file_92 rfl (lv_at hl 0 rfl) ?_
          refine va_get (C := "PageDrive$Entry") (T := F_EN) (N := 3) hx hb hg iw_EN hown hK hP (7 + i) (pw_gE (i := i) (by omega)) rfl 2 (by decide) (hg (Cond.fieldLink "PageDrive" 105 "PageDrive$Entry" "low" "I") (wG_m3 (List.mem_of_getElem? (i := 9) rfl))) (fun _ h9 => h9) rfl d_PD_file_93 ?_
          refine W.widen (k := 1) (n := 6) (by omega) (by omega) ?_
          exact vx_ret (W.iret (v := (nI (S 6 i))) hx hb hret (fun t9 ht9 hW9 => ⟨⟨_, _, rfl, ⟨rfl, i, 2, hi, rfl, by omega, rfl, rfl⟩, by rw [ht9]; exact hP, va_K.moved hW9.alike hK, hD⟩, hS.F ht9⟩) hS.2.2 d_PD_file_96)
        · refine lv_tableIn (tgt := 97) hx hb d_PD_file_35 (by decide) (by decide) rfl (by decide) ?_
          refine lv_aload_n hx hb d_PD_file_97 rfl (lv_at hl 0 rfl) ?_
          refine va_get (C := "PageDrive$Entry") (T := F_EN) (N := 3) hx hb hg iw_EN hown hK hP (7 + i) (pw_gE (i := i) (by omega)) rfl 0 (by decide) (hg (Cond.fieldLink "PageDrive" 63 "PageDrive$Entry" "now" "LPageDrive$Content;") (wG_m3 (List.mem_of_getElem? (i := 5) rfl))) (fun _ h9 => h9) rfl d_PD_file_98 ?_
          refine va_get (C := "PageDrive$Content") (T := F_CO) (N := 3) hx hb hg iw_CO hown hK hP (23 + (2 * i)) (pw_gC (i := 2 * i) (by omega)) rfl 2 (by decide) (hg (Cond.fieldLink "PageDrive" 91 "PageDrive$Content" "there" "Z") (wG_m2 (List.mem_of_getElem? (i := 36) rfl))) (fun _ h9 => h9) rfl d_PD_file_101 ?_
          refine pq_if_eq (tgt := 111) hx hb (by omega) d_PD_file_104 (by decide) (fun h3 => ?_) (fun h3 => ?_)
          · refine lv_iconst (v := nI 0) hx hb d_PD_file_111 (by decide) ?_
            refine W.widen (k := 1) (n := 6) (by omega) (by omega) ?_
            exact vx_ret (W.iret (v := (nI 0)) hx hb hret (fun t9 ht9 hW9 => ⟨⟨_, _, rfl, ⟨rfl, i, 3, hi, rfl, by omega, rfl, by show nI 0 = nI (S 5 (2 * i)); rw [h3]⟩, by rw [ht9]; exact hP, va_K.moved hW9.alike hK, hD⟩, hS.F ht9⟩) hS.2.2 d_PD_file_112)
          · refine lv_iconst (v := nI 1) hx hb d_PD_file_107 (by decide) ?_
            refine lv_goto (tgt := 112) hx hb d_PD_file_108 (by decide) ?_
            refine W.widen (k := 1) (n := 6) (by omega) (by omega) ?_
            exact vx_ret (W.iret (v := (nI 1)) hx hb hret (fun t9 ht9 hW9 => ⟨⟨_, _, rfl, ⟨rfl, i, 3, hi, rfl, by omega, rfl, by show nI 1 = nI (S 5 (2 * i)); rw [show S 5 (2 * i) = 1 by omega]⟩, by rw [ht9]; exact hP, va_K.moved hW9.alike hK, hD⟩, hS.F ht9⟩) hS.2.2 d_PD_file_112)
        · refine lv_tableIn (tgt := 113) hx hb d_PD_file_35 (by decide) (by decide) rfl (by decide) ?_
          refine lv_aload_n hx hb d_PD_file_113 rfl (lv_at hl 0 rfl) ?_
          refine va_get (C := "PageDrive$Entry") (T := F_EN) (N := 3) hx hb hg iw_EN hown hK hP (7 + i) (pw_gE (i := i) (by omega)) rfl 1 (by decide) (hg (Cond.fieldLink "PageDrive" 112 "PageDrive$Entry" "synced" "LPageDrive$Content;") (wG_m3 (List.mem_of_getElem? (i := 7) rfl))) (fun _ h9 => h9) rfl d_PD_file_114 ?_
          refine va_get (C := "PageDrive$Content") (T := F_CO) (N := 3) hx hb hg iw_CO hown hK hP (23 + (2 * i + 1)) (pw_gC (i := 2 * i + 1) (by omega)) rfl 2 (by decide) (hg (Cond.fieldLink "PageDrive" 91 "PageDrive$Content" "there" "Z") (wG_m2 (List.mem_of_getElem? (i := 36) rfl))) (fun _ h9 => h9) rfl d_PD_file_117 ?_
          refine pq_if_eq (tgt := 127) hx hb (by omega) d_PD_file_120 (by decide) (fun h3 => ?_) (fun h3 => ?_)
          · refine lv_iconst (v := nI 0) hx hb d_PD_file_127 (by decide) ?_
            refine W.widen (k := 1) (n := 6) (by omega) (by omega) ?_
            exact vx_ret (W.iret (v := (nI 0)) hx hb hret (fun t9 ht9 hW9 => ⟨⟨_, _, rfl, ⟨rfl, i, 4, hi, rfl, by omega, rfl, by show nI 0 = nI (S 5 (2 * i + 1)); rw [h3]⟩, by rw [ht9]; exact hP, va_K.moved hW9.alike hK, hD⟩, hS.F ht9⟩) hS.2.2 d_PD_file_128)
          · refine lv_iconst (v := nI 1) hx hb d_PD_file_123 (by decide) ?_
            refine lv_goto (tgt := 128) hx hb d_PD_file_124 (by decide) ?_
            refine W.widen (k := 1) (n := 6) (by omega) (by omega) ?_
            exact vx_ret (W.iret (v := (nI 1)) hx hb hret (fun t9 ht9 hW9 => ⟨⟨_, _, rfl, ⟨rfl, i, 4, hi, rfl, by omega, rfl, by show nI 1 = nI (S 5 (2 * i + 1)); rw [show S 5 (2 * i + 1) = 1 by omega]⟩, by rw [ht9]; exact hP, va_K.moved hW9.alike hK, hD⟩, hS.F ht9⟩) hS.2.2 d_PD_file_128)
        · refine lv_tableIn (tgt := 129) hx hb d_PD_file_35 (by decide) (by decide) rfl (by decide) ?_
          refine lv_aload_n hx hb d_PD_file_129 rfl (lv_at hl 0 rfl) ?_
          refine va_get (C := "PageDrive$Entry") (T := F_EN) (N := 3) hx hb hg iw_EN hown hK hP (7 + i) (pw_gE (i := i) (by omega)) rfl 0 (by decide) (hg (Cond.fieldLink "PageDrive" 63 "PageDrive$Entry" "now" "LPageDrive$Content;") (wG_m3 (List.mem_of_getElem? (i := 5) rfl))) (fun _ h9 => h9) rfl d_PD_file_130 ?_
          refine va_get (C := "PageDrive$Content") (T := F_CO) (N := 3) hx hb hg iw_CO hown hK hP (23 + (2 * i)) (pw_gC (i := 2 * i) (by omega)) rfl 1 (by decide) (hg (Cond.fieldLink "PageDrive" 67 "PageDrive$Content" "size" "I") (wG_m2 (List.mem_of_getElem? (i := 34) rfl))) (fun _ h9 => h9) rfl d_PD_file_133 ?_
          refine pw_callip (va_runS (As := [.int (nI (S 4 (2 * i)))]) (rest := []) ⟨hx, hb, hml, hown, hg⟩ (c_PD_pagesFor l dC dI cI cB cE cL cZ (pw n ad cI cB cE S) (S 4 (2 * i)) (by omega) H.size) (cwS 1 hg (gi_S (fun _ h => h) (wG_m4 (List.mem_of_getElem? (i := 6) rfl)) (wG_m4 (List.mem_of_getElem? (i := 7) rfl)) (wG_m1 (List.mem_of_getElem? (i := 1) rfl)) (wG_m4 (List.mem_of_getElem? (i := 8) rfl))) rfl rfl rfl (by decide +kernel) ⟨Nat.le_of_ble_eq_true rfl, Nat.le_of_ble_eq_true rfl⟩) (pw_ps hK hP hD [.int (nI (S 4 (2 * i)))]) rfl rfl hl.1 rfl (lv_room (Nat.le_of_ble_eq_true rfl)) d_PD_file_136 ⟨Nat.le_of_ble_eq_true rfl, Nat.le_of_ble_eq_true rfl⟩) hD hS hA (fun r2 H locs hr hP hD hS => ?_)
          subst hr
          refine W.widen (k := 1) (n := 6) (by omega) (by omega) ?_
          exact vx_ret (W.iret (v := (nI (pd_pf (S 4 (2 * i))))) hx hb hret (fun t9 ht9 hW9 => ⟨⟨_, _, rfl, ⟨rfl, i, 5, hi, rfl, by omega, rfl, rfl⟩, by rw [ht9]; exact hP, va_K.moved hW9.alike hK, hD⟩, hS.F ht9⟩) hS.2.2 d_PD_file_139)
        · refine lv_tableIn (tgt := 140) hx hb d_PD_file_35 (by decide) (by decide) rfl (by decide) ?_
          refine lv_aload_n hx hb d_PD_file_140 rfl (lv_at hl 0 rfl) ?_
          refine va_get (C := "PageDrive$Entry") (T := F_EN) (N := 3) hx hb hg iw_EN hown hK hP (7 + i) (pw_gE (i := i) (by omega)) rfl 1 (by decide) (hg (Cond.fieldLink "PageDrive" 112 "PageDrive$Entry" "synced" "LPageDrive$Content;") (wG_m3 (List.mem_of_getElem? (i := 7) rfl))) (fun _ h9 => h9) rfl d_PD_file_141 ?_
          refine va_get (C := "PageDrive$Content") (T := F_CO) (N := 3) hx hb hg iw_CO hown hK hP (23 + (2 * i + 1)) (pw_gC (i := 2 * i + 1) (by omega)) rfl 1 (by decide) (hg (Cond.fieldLink "PageDrive" 67 "PageDrive$Content" "size" "I") (wG_m2 (List.mem_of_getElem? (i := 34) rfl))) (fun _ h9 => h9) rfl d_PD_file_144 ?_
          refine pw_callip (va_runS (As := [.int (nI (S 4 (2 * i + 1)))]) (rest := []) ⟨hx, hb, hml, hown, hg⟩ (c_PD_pagesFor l dC dI cI cB cE cL cZ (pw n ad cI cB cE S) (S 4 (2 * i + 1)) (by omega) H.size) (cwS 1 hg (gi_S (fun _ h => h) (wG_m4 (List.mem_of_getElem? (i := 6) rfl)) (wG_m4 (List.mem_of_getElem? (i := 7) rfl)) (wG_m1 (List.mem_of_getElem? (i := 1) rfl)) (wG_m4 (List.mem_of_getElem? (i := 8) rfl))) rfl rfl rfl (by decide +kernel) ⟨Nat.le_of_ble_eq_true rfl, Nat.le_of_ble_eq_true rfl⟩) (pw_ps hK hP hD [.int (nI (S 4 (2 * i + 1)))]) rfl rfl hl.1 rfl (lv_room (Nat.le_of_ble_eq_true rfl)) d_PD_file_147 ⟨Nat.le_of_ble_eq_true rfl, Nat.le_of_ble_eq_true rfl⟩) hD hS hA (fun r3 H locs hr hP hD hS => ?_)
          subst hr
          refine W.widen (k := 1) (n := 6) (by omega) (by omega) ?_
          exact vx_ret (W.iret (v := (nI (pd_pf (S 4 (2 * i + 1))))) hx hb hret (fun t9 ht9 hW9 => ⟨⟨_, _, rfl, ⟨rfl, i, 6, hi, rfl, by omega, rfl, rfl⟩, by rw [ht9]; exact hP, va_K.moved hW9.alike hK, hD⟩, hS.F ht9⟩) hS.2.2 d_PD_file_150)
        · refine lv_tableOut (tgt := 151) hx hb d_PD_file_35 (Or.inr (by decide)) (by decide) ?_
          refine lv_aload_n hx hb d_PD_file_151 rfl (lv_at hl 1 rfl) ?_
          refine lv_aload_n hx hb d_PD_file_152 rfl (lv_at hl 0 rfl) ?_
          refine va_get (C := "PageDrive$Entry") (T := F_EN) (N := 3) hx hb hg iw_EN hown hK hP (7 + i) (pw_gE (i := i) (by omega)) rfl 0 (by decide) (hg (Cond.fieldLink "PageDrive" 63 "PageDrive$Entry" "now" "LPageDrive$Content;") (wG_m3 (List.mem_of_getElem? (i := 5) rfl))) (fun _ h9 => h9) rfl d_PD_file_153 ?_
          refine pw_callip (va_runV (As := [.ref (ad (23 + 2 * i))]) (rest := []) ⟨hx, hb, hml, hown, hg⟩ (c_PD_sharedPages l dC dI cI cB cE cL cZ n ad S (2 * i) hn hv ho (by omega) H.size) (cwV 1 hg (gi_V (fun _ h => h) (wG_m10 (List.mem_of_getElem? (i := 7) rfl)) (wG_m10 (List.mem_of_getElem? (i := 8) rfl)) (wG_m14 (List.mem_of_getElem? (i := 10) rfl)) (wG_m1 (List.mem_of_getElem? (i := 1) rfl)) (wG_m10 (List.mem_of_getElem? (i := 9) rfl))) rfl rfl rfl (by decide +kernel) ⟨Nat.le_of_ble_eq_true rfl, Nat.le_of_ble_eq_true rfl⟩) (pw_pv hK hP hD (va_recv hK hP (ci := 0) (q0 := 0) rfl pw_g0) [.ref (ad (23 + 2 * i))]) rfl rfl hl.1 rfl (lv_room (Nat.le_of_ble_eq_true rfl)) d_PD_file_156 ⟨Nat.le_of_ble_eq_true rfl, Nat.le_of_ble_eq_true rfl⟩) hD hS hA (fun r4 H locs hr hP hD hS => ?_)
          subst hr
          refine W.widen (k := 1) (n := 6) (by omega) (by omega) ?_
          exact vx_ret (W.iret (v := (nI (pd_shd S (2 * i)))) hx hb hret (fun t9 ht9 hW9 => ⟨⟨_, _, rfl, ⟨rfl, i, 7, hi, rfl, by omega, rfl, rfl⟩, by rw [ht9]; exact hP, va_K.moved hW9.alike hK, hD⟩, hS.F ht9⟩) hS.2.2 d_PD_file_159)
      · obtain ⟨sa, hstr⟩ := hKK.2.1 (141, "no such file number, or nothing to be asked of it") (by decide +kernel)
        exact vx_throwS hx hb hst hown (cls := "java/lang/IndexOutOfBoundsException") (names := pgNm) xf_62 xn_nm (hg (Cond.classLink "PageDrive" 58 "java/lang/IndexOutOfBoundsException") (wG_m7 (List.mem_of_getElem? (i := 8) rfl))) (hg (Cond.initialized "java/lang/IndexOutOfBoundsException") (wG_m1 (List.mem_of_getElem? (i := 12) rfl))) hstr (pg_hat xa_62 hg hKK.1) xo_62 hZ.1 hZ.2 hS (hl.1.trans hml.symm) d_PD_file_17 d_PD_file_20 d_PD_file_21 d_PD_file_23 d_PD_file_26 (fun x h => (htab x h).elim) (Nat.le_of_ble_eq_true rfl) (Nat.le_of_ble_eq_true rfl) (Nat.le_of_ble_eq_true rfl) (Nat.le_of_ble_eq_true rfl) hlocks (fun t9 hy1 hy2 hy3 => ⟨("java/lang/IndexOutOfBoundsException", S), ⟨rfl, rfl, Or.inr (fun w hw => pd_above (b := 7) (by decide) (Int32.not_le.mp h2) w hw)⟩, ⟨rfl, (px_end (Wf := fun S => pw n ad cI cB cE S) hK hP hD hS t9 hy1 hy2 hy3).1⟩, (px_end (Wf := fun S => pw n ad cI cB cE S) hK hP hD hS t9 hy1 hy2 hy3).2⟩) hS.2.2 (Nat.le_of_ble_eq_true rfl) (Nat.le_of_ble_eq_true rfl)
  · refine pq_if_eq (tgt := 17) hx hb (by omega) d_PD_file_4 (by decide) (fun _ => ?_) (fun h9 => absurd h9 (by omega))
    obtain ⟨sa, hstr⟩ := hKK.2.1 (141, "no such file number, or nothing to be asked of it") (by decide +kernel)
    exact vx_throwS hx hb hst hown (cls := "java/lang/IndexOutOfBoundsException") (names := pgNm) xf_62 xn_nm (hg (Cond.classLink "PageDrive" 58 "java/lang/IndexOutOfBoundsException") (wG_m7 (List.mem_of_getElem? (i := 8) rfl))) (hg (Cond.initialized "java/lang/IndexOutOfBoundsException") (wG_m1 (List.mem_of_getElem? (i := 12) rfl))) hstr (pg_hat xa_62 hg hKK.1) xo_62 hZ.1 hZ.2 hS (hl.1.trans hml.symm) d_PD_file_17 d_PD_file_20 d_PD_file_21 d_PD_file_23 d_PD_file_26 (fun x h => (htab x h).elim) (Nat.le_of_ble_eq_true rfl) (Nat.le_of_ble_eq_true rfl) (Nat.le_of_ble_eq_true rfl) (Nat.le_of_ble_eq_true rfl) hlocks (fun t9 hy1 hy2 hy3 => ⟨("java/lang/IndexOutOfBoundsException", S), ⟨rfl, rfl, Or.inl hno⟩, ⟨rfl, (px_end (Wf := fun S => pw n ad cI cB cE S) hK hP hD hS t9 hy1 hy2 hy3).1⟩, (px_end (Wf := fun S => pw n ad cI cB cE S) hK hP hD hS t9 hy1 hy2 hy3).2⟩) hS.2.2 (Nat.le_of_ble_eq_true rfl) (Nat.le_of_ble_eq_true rfl)
set_option maxHeartbeats 4000000 in
set_option maxRecDepth 100000 in
/-- byteAt -/
theorem c_PD_byteAt (l : Launch) (dC : Nat → ClassId) (dI : Nat → Nat → Nat) (cI cB cE cL cZ : ClassId) (hst : l.stackTraces = false) (n : Nat) (ad : Nat → Nat) (S : pdS) (f : Int32) (b : Nat) (z : Int32) (hb1 : b ≤ 1) (hn : n ≤ 1024) (hv : pd_v n S) (ho : pd_ok n S (pd_ct S)) (sz : Nat) : CXi l (dC, dI) (pw_ty cI cB cE cL cZ) y_PD_byteAt w_PD_byteAt ({ frames := 6, cells := 1, slots := 6, locals := 82 }) [.ref (ad 0), .int f, .int (nI b), .int z] (pw n ad cI cB cE S) (pw n ad cI cB cE) sz (fun r S2 => S2 = S ∧ ∃ i j, i < 16 ∧ f = nI i ∧ j < S 4 (2 * i + b) ∧ z = nI j ∧ r = nI (pd_by S (2 * i + b) j)) (fun E S2 => S2 = S ∧ E = "java/lang/IndexOutOfBoundsException" ∧ (pd_nof f ∨ ∃ i, i < 16 ∧ f = nI i ∧ ∀ j, j < S 4 (2 * i + b) → z ≠ nI j)) := by
  refine vx_ofW (cc := b_PD_byteAt) (maxL := 5) (ret := (some .int)) (by decide) rfl ?_
  intro p e s m args below meth c s₁ B hml htab hv
  obtain ⟨rfl, ⟨hsz, hP, hK, hD0⟩, hKK, hZ⟩ := hv
  have hx := B.exec
  have hb := B.bytes
  have hret := B.returns
  have hts := atoms_spec (ws := w_PD_byteAt) B.pre
  have hg : ∀ w ∈ wsG, w.before _ s = true := fun w h => hts w (List.mem_cons_of_mem _ h)
  have hown : s.vm.findClass "PageDrive" = some m.cls := findClass_of_methodNamed B.named
  have hlocks := B.notSynchronized
  subst hsz
  have hD := hD0.self (sz := s.heap.size)
  generalize hAe : va_A (pw n ad cI cB cE S) s.heap.size = A at hD hZ ⊢
  have hA : ∀ q : Nat, s.heap.size ≤ q → A q := fun q h => by rw [← hAe]; exact Or.inr h
  have hS : va_S A s.heap s.heap [] := va_S.rf
  have hl := lv_entry ([.ref (ad 0), .int f, .int (nI b), .int z]) (n := 5) (Nat.le_of_ble_eq_true rfl)
  rw [lg_entry_eq]
  generalize (lg_sl ([.ref (ad 0), .int f, .int (nI b), .int z]) ++ List.replicate (5 - (lg_sl ([.ref (ad 0), .int f, .int (nI b), .int z])).length) Slot.unset).toArray = ls at hl ⊢
  have hl : lv_has ls 5 [(0, .ref (ad 0)), (1, .int f), (2, .int (nI b)), (3, .int z)] := hl
  refine lv_iload_n hx hb d_PD_byteAt_0 rfl (lv_at hl 1 rfl) ?_
  refine pw_callip (va_runS (As := [.int f]) (rest := []) ⟨hx, hb, hml, hown, hg⟩ (c_PD_isFile l dC dI cI cB cE cL cZ (pw n ad cI cB cE S) f s.heap.size) (cwS 1 hg (gi_S (fun _ h => h) (wG_m7 (List.mem_of_getElem? (i := 5) rfl)) (wG_m7 (List.mem_of_getElem? (i := 6) rfl)) (wG_m1 (List.mem_of_getElem? (i := 1) rfl)) (wG_m7 (List.mem_of_getElem? (i := 7) rfl))) rfl rfl rfl (by decide +kernel) ⟨Nat.le_of_ble_eq_true rfl, Nat.le_of_ble_eq_true rfl⟩) (pw_ps hK hP hD [.int f]) rfl rfl hl.1 rfl (lv_room (Nat.le_of_ble_eq_true rfl)) d_PD_byteAt_1 ⟨Nat.le_of_ble_eq_true rfl, Nat.le_of_ble_eq_true rfl⟩) hD hS hA (fun r1 H locs hr hP hD hS => ?_)
  rcases hr with ⟨i, hi, rfl, rfl⟩ | ⟨hno, rfl⟩
  · refine pq_if_ne (tgt := 17) hx hb (by omega) d_PD_byteAt_4 (by decide) (fun _ => ?_) (fun h9 => absurd h9 (by omega))
    refine lv_iload_n hx hb d_PD_byteAt_17 rfl (lv_at hl 2 rfl) ?_
    refine pq_if_eq (tgt := 33) hx hb (by omega) d_PD_byteAt_18 (by decide) (fun h1 => ?_) (fun h1 => ?_)
    · have hbv : b = 0 := by omega
      subst hbv
      have hs4 := (hv.1 (2 * i) (by omega)).1
      refine lv_aload_n hx hb d_PD_byteAt_33 rfl (lv_at hl 0 rfl) ?_
      refine va_get (C := "PageDrive") (T := F_PD) (N := 4) hx hb hg iw_PD hown hK hP (0) pw_g0 rfl 1 (by decide) (hg (Cond.fieldLink "PageDrive" 29 "PageDrive" "entries" "[LPageDrive$Entry;") (wG_m3 (List.mem_of_getElem? (i := 18) rfl))) (fun _ h9 => h9) rfl d_PD_byteAt_34 ?_
      refine lv_iload_n hx hb d_PD_byteAt_37 rfl (lv_at hl 1 rfl) ?_
      refine pr_ent hx hb hK hP (i := i) (by omega) rfl d_PD_byteAt_38 ?_
      refine va_get (C := "PageDrive$Entry") (T := F_EN) (N := 3) hx hb hg iw_EN hown hK hP (7 + i) (pw_gE (i := i) (by omega)) rfl 0 (by decide) (hg (Cond.fieldLink "PageDrive" 63 "PageDrive$Entry" "now" "LPageDrive$Content;") (wG_m3 (List.mem_of_getElem? (i := 5) rfl))) (fun _ h9 => h9) rfl d_PD_byteAt_39 ?_
      refine lv_astore (lv' := [(4, .ref (ad (23 + 2 * i))), (0, .ref (ad 0)), (1, .int (nI i)), (2, .int (nI 0)), (3, .int z)]) hx hb d_PD_byteAt_42 hl (by decide) rfl (fun ls hl => ?_)
      refine lv_iload_n hx hb d_PD_byteAt_44 rfl (lv_at hl 4 rfl) ?_
      refine lv_if_lt (tgt := 57) hx hb d_PD_byteAt_45 (by decide) (fun h2 => ?_) (fun h2 => ?_)
      · obtain ⟨sa, hstr⟩ := hKK.2.1 (151, "no such byte") (by decide +kernel)
        exact vx_throwS hx hb hst hown (cls := "java/lang/IndexOutOfBoundsException") (names := pgNm) xf_62 xn_nm (hg (Cond.classLink "PageDrive" 58 "java/lang/IndexOutOfBoundsException") (wG_m7 (List.mem_of_getElem? (i := 8) rfl))) (hg (Cond.initialized "java/lang/IndexOutOfBoundsException") (wG_m1 (List.mem_of_getElem? (i := 12) rfl))) hstr (pg_hat xa_62 hg hKK.1) xo_62 hZ.1 hZ.2 hS (hl.1.trans hml.symm) d_PD_byteAt_57 d_PD_byteAt_60 d_PD_byteAt_61 d_PD_byteAt_63 d_PD_byteAt_66 (fun x h => (htab x h).elim) (Nat.le_of_ble_eq_true rfl) (Nat.le_of_ble_eq_true rfl) (Nat.le_of_ble_eq_true rfl) (Nat.le_of_ble_eq_true rfl) hlocks (fun t9 hy1 hy2 hy3 => ⟨("java/lang/IndexOutOfBoundsException", S), ⟨rfl, rfl, Or.inr ⟨i, hi, rfl, fun j hj => pd_below (a := 0) h2 j (by omega) (by have h8 : j < S 4 (2 * i) := hj; omega)⟩⟩, ⟨rfl, (px_end (Wf := fun S => pw n ad cI cB cE S) hK hP hD hS t9 hy1 hy2 hy3).1⟩, (px_end (Wf := fun S => pw n ad cI cB cE S) hK hP hD hS t9 hy1 hy2 hy3).2⟩) hS.2.2 (Nat.le_of_ble_eq_true rfl) (Nat.le_of_ble_eq_true rfl)
      · refine lv_iload_n hx hb d_PD_byteAt_48 rfl (lv_at hl 4 rfl) ?_
        refine lv_aload hx hb d_PD_byteAt_49 (lv_at hl 0 rfl) ?_
        refine va_get (C := "PageDrive$Content") (T := F_CO) (N := 3) hx hb hg iw_CO hown hK hP (23 + (2 * i)) (pw_gC (i := 2 * i) (by omega)) rfl 1 (by decide) (hg (Cond.fieldLink "PageDrive" 67 "PageDrive$Content" "size" "I") (wG_m2 (List.mem_of_getElem? (i := 34) rfl))) (fun _ h9 => h9) rfl d_PD_byteAt_51 ?_
        refine lv_icmp_lt (tgt := 67) hx hb d_PD_byteAt_54 (by decide) (fun h3 => ?_) (fun h3 => ?_)
        · obtain ⟨j, hj0, rfl⟩ := nI_of h2
          have hj : j < S 4 (2 * i) := (nI_ltI hj0 (by omega)).mp h3
          have hk0 : j / 64 < pd_pf (S 4 (2 * i)) := by unfold pd_pf; omega
          have hpg := hv.2.1 (2 * i) (j / 64) (by omega) hk0
          refine lv_aload_n hx hb d_PD_byteAt_67 rfl (lv_at hl 1 rfl) ?_
          refine va_get (C := "PageDrive") (T := F_PD) (N := 4) hx hb hg iw_PD hown hK hP (0) pw_g0 rfl 0 (by decide) (hg (Cond.fieldLink "PageDrive" 23 "PageDrive" "pool" "LPageDrive$Pool;") (wG_m3 (List.mem_of_getElem? (i := 17) rfl))) (fun _ h9 => h9) rfl d_PD_byteAt_68 ?_
          refine va_get (C := "PageDrive$Pool") (T := F_PO) (N := 6) hx hb hg iw_PO hown hK hP (1) pw_g1 rfl 1 (by decide) (hg (Cond.fieldLink "PageDrive" 153 "PageDrive$Pool" "bytes" "[B") (wG_m1 (List.mem_of_getElem? (i := 39) rfl))) (fun _ h9 => h9) rfl d_PD_byteAt_71 ?_
          refine lv_aload hx hb d_PD_byteAt_74 (lv_at hl 0 rfl) ?_
          refine lv_iload_n hx hb d_PD_byteAt_76 rfl (lv_at hl 4 rfl) ?_
          refine pw_callip (va_runV (As := [.int (nI j)]) (rest := [.ref (ad 4)]) ⟨hx, hb, hml, hown, hg⟩ (c_CO_placeOf l dC dI cI cB cE cL cZ n ad S (2 * i) j (by omega) (by omega) (by omega) H.size) (cwV 1 hg (gi_V (fun _ h => h) (wG_m8 (List.mem_of_getElem? (i := 23) rfl)) (wG_m8 (List.mem_of_getElem? (i := 24) rfl)) (wG_m8 (List.mem_of_getElem? (i := 25) rfl)) (wG_m1 (List.mem_of_getElem? (i := 5) rfl)) (wG_m8 (List.mem_of_getElem? (i := 26) rfl))) rfl rfl rfl (by decide +kernel) ⟨Nat.le_of_ble_eq_true rfl, Nat.le_of_ble_eq_true rfl⟩) (pw_pv hK hP hD (va_recv hK hP (ci := 3) (q0 := 23 + (2 * i)) rfl (pw_gC (i := 2 * i) (by omega))) [.int (nI j)]) rfl rfl hl.1 rfl (lv_room (Nat.le_of_ble_eq_true rfl)) d_PD_byteAt_77 ⟨Nat.le_of_ble_eq_true rfl, Nat.le_of_ble_eq_true rfl⟩) hD hS hA (fun r2 H locs hr hP hD hS => ?_)
          subst hr
          refine pq_bald hx hb hK hP 4 1 pw_g4 rfl (by omega) (by omega) d_PD_byteAt_80 ?_
          refine lv_sipush (v := nI 255) hx hb d_PD_byteAt_81 (by decide) ?_
          refine lv_iand hx hb d_PD_byteAt_84 ?_
          refine pq_top (y := nI (pd_by S (2 * i) j)) ((sb_byte _ (hv.2.2.2.2.2 _)).1) ?_
          refine W.widen (k := 1) (n := 6) (by omega) (by omega) ?_
          exact vx_ret (W.iret (v := (nI (pd_by S (2 * i) j))) hx hb hret (fun t9 ht9 hW9 => ⟨⟨_, _, rfl, ⟨rfl, i, j, hi, rfl, hj, rfl, rfl⟩, by rw [ht9]; exact hP, va_K.moved hW9.alike hK, hD⟩, hS.F ht9⟩) hS.2.2 d_PD_byteAt_85)
        · obtain ⟨sa, hstr⟩ := hKK.2.1 (151, "no such byte") (by decide +kernel)
          exact vx_throwS hx hb hst hown (cls := "java/lang/IndexOutOfBoundsException") (names := pgNm) xf_62 xn_nm (hg (Cond.classLink "PageDrive" 58 "java/lang/IndexOutOfBoundsException") (wG_m7 (List.mem_of_getElem? (i := 8) rfl))) (hg (Cond.initialized "java/lang/IndexOutOfBoundsException") (wG_m1 (List.mem_of_getElem? (i := 12) rfl))) hstr (pg_hat xa_62 hg hKK.1) xo_62 hZ.1 hZ.2 hS (hl.1.trans hml.symm) d_PD_byteAt_57 d_PD_byteAt_60 d_PD_byteAt_61 d_PD_byteAt_63 d_PD_byteAt_66 (fun x h => (htab x h).elim) (Nat.le_of_ble_eq_true rfl) (Nat.le_of_ble_eq_true rfl) (Nat.le_of_ble_eq_true rfl) (Nat.le_of_ble_eq_true rfl) hlocks (fun t9 hy1 hy2 hy3 => ⟨("java/lang/IndexOutOfBoundsException", S), ⟨rfl, rfl, Or.inr ⟨i, hi, rfl, fun j hj q => h3 (by subst q; exact (nI_ltI (by have h8 : j < S 4 (2 * i) := hj; omega) (by omega)).mpr hj)⟩⟩, ⟨rfl, (px_end (Wf := fun S => pw n ad cI cB cE S) hK hP hD hS t9 hy1 hy2 hy3).1⟩, (px_end (Wf := fun S => pw n ad cI cB cE S) hK hP hD hS t9 hy1 hy2 hy3).2⟩) hS.2.2 (Nat.le_of_ble_eq_true rfl) (Nat.le_of_ble_eq_true rfl)
    · have hbv : b = 1 := by omega
      subst hbv
      have hs4 := (hv.1 (2 * i + 1) (by omega)).1
      refine lv_aload_n hx hb d_PD_byteAt_21 rfl (lv_at hl 0 rfl) ?_
      refine va_get (C := "PageDrive") (T := F_PD) (N := 4) hx hb hg iw_PD hown hK hP (0) pw_g0 rfl 1 (by decide) (hg (Cond.fieldLink "PageDrive" 29 "PageDrive" "entries" "[LPageDrive$Entry;") (wG_m3 (List.mem_of_getElem? (i := 18) rfl))) (fun _ h9 => h9) rfl d_PD_byteAt_22 ?_
      refine lv_iload_n hx hb d_PD_byteAt_25 rfl (lv_at hl 1 rfl) ?_
      refine pr_ent hx hb hK hP (i := i) (by omega) rfl d_PD_byteAt_26 ?_
      refine va_get (C := "PageDrive$Entry") (T := F_EN) (N := 3) hx hb hg iw_EN hown hK hP (7 + i) (pw_gE (i := i) (by omega)) rfl 1 (by decide) (hg (Cond.fieldLink "PageDrive" 112 "PageDrive$Entry" "synced" "LPageDrive$Content;") (wG_m3 (List.mem_of_getElem? (i := 7) rfl))) (fun _ h9 => h9) rfl d_PD_byteAt_27 ?_
      refine lv_goto (tgt := 42) hx hb d_PD_byteAt_30 (by decide) ?_
      refine lv_astore (lv' := [(4, .ref (ad (23 + (2 * i + 1)))), (0, .ref (ad 0)), (1, .int (nI i)), (2, .int (nI 1)), (3, .int z)]) hx hb d_PD_byteAt_42 hl (by decide) rfl (fun ls hl => ?_)
      refine lv_iload_n hx hb d_PD_byteAt_44 rfl (lv_at hl 4 rfl) ?_
      refine lv_if_lt (tgt := 57) hx hb d_PD_byteAt_45 (by decide) (fun h2 => ?_) (fun h2 => ?_)
      · obtain ⟨sa, hstr⟩ := hKK.2.1 (151, "no such byte") (by decide +kernel)
        exact vx_throwS hx hb hst hown (cls := "java/lang/IndexOutOfBoundsException") (names := pgNm) xf_62 xn_nm (hg (Cond.classLink "PageDrive" 58 "java/lang/IndexOutOfBoundsException") (wG_m7 (List.mem_of_getElem? (i := 8) rfl))) (hg (Cond.initialized "java/lang/IndexOutOfBoundsException") (wG_m1 (List.mem_of_getElem? (i := 12) rfl))) hstr (pg_hat xa_62 hg hKK.1) xo_62 hZ.1 hZ.2 hS (hl.1.trans hml.symm) d_PD_byteAt_57 d_PD_byteAt_60 d_PD_byteAt_61 d_PD_byteAt_63 d_PD_byteAt_66 (fun x h => (htab x h).elim) (Nat.le_of_ble_eq_true rfl) (Nat.le_of_ble_eq_true rfl) (Nat.le_of_ble_eq_true rfl) (Nat.le_of_ble_eq_true rfl) hlocks (fun t9 hy1 hy2 hy3 => ⟨("java/lang/IndexOutOfBoundsException", S), ⟨rfl, rfl, Or.inr ⟨i, hi, rfl, fun j hj => pd_below (a := 0) h2 j (by omega) (by have h8 : j < S 4 (2 * i + 1) := hj; omega)⟩⟩, ⟨rfl, (px_end (Wf := fun S => pw n ad cI cB cE S) hK hP hD hS t9 hy1 hy2 hy3).1⟩, (px_end (Wf := fun S => pw n ad cI cB cE S) hK hP hD hS t9 hy1 hy2 hy3).2⟩) hS.2.2 (Nat.le_of_ble_eq_true rfl) (Nat.le_of_ble_eq_true rfl)
      · refine lv_iload_n hx hb d_PD_byteAt_48 rfl (lv_at hl 4 rfl) ?_
        refine lv_aload hx hb d_PD_byteAt_49 (lv_at hl 0 rfl) ?_
        refine va_get (C := "PageDrive$Content") (T := F_CO) (N := 3) hx hb hg iw_CO hown hK hP (23 + (2 * i + 1)) (pw_gC (i := 2 * i + 1) (by omega)) rfl 1 (by decide) (hg (Cond.fieldLink "PageDrive" 67 "PageDrive$Content" "size" "I") (wG_m2 (List.mem_of_getElem? (i := 34) rfl))) (fun _ h9 => h9) rfl d_PD_byteAt_51 ?_
        refine lv_icmp_lt (tgt := 67) hx hb d_PD_byteAt_54 (by decide) (fun h3 => ?_) (fun h3 => ?_)
        · obtain ⟨j, hj0, rfl⟩ := nI_of h2
          have hj : j < S 4 (2 * i + 1) := (nI_ltI hj0 (by omega)).mp h3
          have hk0 : j / 64 < pd_pf (S 4 (2 * i + 1)) := by unfold pd_pf; omega
          have hpg := hv.2.1 (2 * i + 1) (j / 64) (by omega) hk0
          refine lv_aload_n hx hb d_PD_byteAt_67 rfl (lv_at hl 1 rfl) ?_
          refine va_get (C := "PageDrive") (T := F_PD) (N := 4) hx hb hg iw_PD hown hK hP (0) pw_g0 rfl 0 (by decide) (hg (Cond.fieldLink "PageDrive" 23 "PageDrive" "pool" "LPageDrive$Pool;") (wG_m3 (List.mem_of_getElem? (i := 17) rfl))) (fun _ h9 => h9) rfl d_PD_byteAt_68 ?_
          refine va_get (C := "PageDrive$Pool") (T := F_PO) (N := 6) hx hb hg iw_PO hown hK hP (1) pw_g1 rfl 1 (by decide) (hg (Cond.fieldLink "PageDrive" 153 "PageDrive$Pool" "bytes" "[B") (wG_m1 (List.mem_of_getElem? (i := 39) rfl))) (fun _ h9 => h9) rfl d_PD_byteAt_71 ?_
          refine lv_aload hx hb d_PD_byteAt_74 (lv_at hl 0 rfl) ?_
          refine lv_iload_n hx hb d_PD_byteAt_76 rfl (lv_at hl 4 rfl) ?_
          refine pw_callip (va_runV (As := [.int (nI j)]) (rest := [.ref (ad 4)]) ⟨hx, hb, hml, hown, hg⟩ (c_CO_placeOf l dC dI cI cB cE cL cZ n ad S (2 * i + 1) j (by omega) (by omega) (by omega) H.size) (cwV 1 hg (gi_V (fun _ h => h) (wG_m8 (List.mem_of_getElem? (i := 23) rfl)) (wG_m8 (List.mem_of_getElem? (i := 24) rfl)) (wG_m8 (List.mem_of_getElem? (i := 25) rfl)) (wG_m1 (List.mem_of_getElem? (i := 5) rfl)) (wG_m8 (List.mem_of_getElem? (i := 26) rfl))) rfl rfl rfl (by decide +kernel) ⟨Nat.le_of_ble_eq_true rfl, Nat.le_of_ble_eq_true rfl⟩) (pw_pv hK hP hD (va_recv hK hP (ci := 3) (q0 := 23 + (2 * i + 1)) rfl (pw_gC (i := 2 * i + 1) (by omega))) [.int (nI j)]) rfl rfl hl.1 rfl (lv_room (Nat.le_of_ble_eq_true rfl)) d_PD_byteAt_77 ⟨Nat.le_of_ble_eq_true rfl, Nat.le_of_ble_eq_true rfl⟩) hD hS hA (fun r3 H locs hr hP hD hS => ?_)
          subst hr
          refine pq_bald hx hb hK hP 4 1 pw_g4 rfl (by omega) (by omega) d_PD_byteAt_80 ?_
          refine lv_sipush (v := nI 255) hx hb d_PD_byteAt_81 (by decide) ?_
          refine lv_iand hx hb d_PD_byteAt_84 ?_
          refine pq_top (y := nI (pd_by S (2 * i + 1) j)) ((sb_byte _ (hv.2.2.2.2.2 _)).1) ?_
          refine W.widen (k := 1) (n := 6) (by omega) (by omega) ?_
          exact vx_ret (W.iret (v := (nI (pd_by S (2 * i + 1) j))) hx hb hret (fun t9 ht9 hW9 => ⟨⟨_, _, rfl, ⟨rfl, i, j, hi, rfl, hj, rfl, rfl⟩, by rw [ht9]; exact hP, va_K.moved hW9.alike hK, hD⟩, hS.F ht9⟩) hS.2.2 d_PD_byteAt_85)
        · obtain ⟨sa, hstr⟩ := hKK.2.1 (151, "no such byte") (by decide +kernel)
          exact vx_throwS hx hb hst hown (cls := "java/lang/IndexOutOfBoundsException") (names := pgNm) xf_62 xn_nm (hg (Cond.classLink "PageDrive" 58 "java/lang/IndexOutOfBoundsException") (wG_m7 (List.mem_of_getElem? (i := 8) rfl))) (hg (Cond.initialized "java/lang/IndexOutOfBoundsException") (wG_m1 (List.mem_of_getElem? (i := 12) rfl))) hstr (pg_hat xa_62 hg hKK.1) xo_62 hZ.1 hZ.2 hS (hl.1.trans hml.symm) d_PD_byteAt_57 d_PD_byteAt_60 d_PD_byteAt_61 d_PD_byteAt_63 d_PD_byteAt_66 (fun x h => (htab x h).elim) (Nat.le_of_ble_eq_true rfl) (Nat.le_of_ble_eq_true rfl) (Nat.le_of_ble_eq_true rfl) (Nat.le_of_ble_eq_true rfl) hlocks (fun t9 hy1 hy2 hy3 => ⟨("java/lang/IndexOutOfBoundsException", S), ⟨rfl, rfl, Or.inr ⟨i, hi, rfl, fun j hj q => h3 (by subst q; exact (nI_ltI (by have h8 : j < S 4 (2 * i + 1) := hj; omega) (by omega)).mpr hj)⟩⟩, ⟨rfl, (px_end (Wf := fun S => pw n ad cI cB cE S) hK hP hD hS t9 hy1 hy2 hy3).1⟩, (px_end (Wf := fun S => pw n ad cI cB cE S) hK hP hD hS t9 hy1 hy2 hy3).2⟩) hS.2.2 (Nat.le_of_ble_eq_true rfl) (Nat.le_of_ble_eq_true rfl)
  · refine pq_if_ne (tgt := 17) hx hb (by omega) d_PD_byteAt_4 (by decide) (fun h9 => absurd h9 (by omega)) (fun _ => ?_)
    obtain ⟨sa, hstr⟩ := hKK.2.1 (89, "no such file number") (by decide +kernel)
    exact vx_throwS hx hb hst hown (cls := "java/lang/IndexOutOfBoundsException") (names := pgNm) xf_62 xn_nm (hg (Cond.classLink "PageDrive" 58 "java/lang/IndexOutOfBoundsException") (wG_m7 (List.mem_of_getElem? (i := 8) rfl))) (hg (Cond.initialized "java/lang/IndexOutOfBoundsException") (wG_m1 (List.mem_of_getElem? (i := 12) rfl))) hstr (pg_hat xa_62 hg hKK.1) xo_62 hZ.1 hZ.2 hS (hl.1.trans hml.symm) d_PD_byteAt_7 d_PD_byteAt_10 d_PD_byteAt_11 d_PD_byteAt_13 d_PD_byteAt_16 (fun x h => (htab x h).elim) (Nat.le_of_ble_eq_true rfl) (Nat.le_of_ble_eq_true rfl) (Nat.le_of_ble_eq_true rfl) (Nat.le_of_ble_eq_true rfl) hlocks (fun t9 hy1 hy2 hy3 => ⟨("java/lang/IndexOutOfBoundsException", S), ⟨rfl, rfl, Or.inl hno⟩, ⟨rfl, (px_end (Wf := fun S => pw n ad cI cB cE S) hK hP hD hS t9 hy1 hy2 hy3).1⟩, (px_end (Wf := fun S => pw n ad cI cB cE S) hK hP hD hS t9 hy1 hy2 hy3).2⟩) hS.2.2 (Nat.le_of_ble_eq_true rfl) (Nat.le_of_ble_eq_true rfl)
set_option maxHeartbeats 4000000 in
set_option maxRecDepth 100000 in
/-- count -/
theorem c_PD_count (l : Launch) (dC : Nat → ClassId) (dI : Nat → Nat → Nat) (cI cB cE cL cZ : ClassId) (n : Nat) (ad : Nat → Nat) (S : pdS) (z : Int32) (hu : S 7 0 ≤ n) (h5 : ∀ d, d < 32 → S 5 d ≤ 1) (sz : Nat) : CMi l (dC, dI) (pw_ty cI cB cE cL cZ) y_PD_count w_PD_count ({ frames := 1, cells := 0, slots := 0, locals := 22 }) [.ref (ad 0), .int z] (pw n ad cI cB cE S) (fun _ : Unit => pw n ad cI cB cE S) sz (fun r _ => (∃ w, w ≤ 4 ∧ z = nI w ∧ r = nI (pd_co n (n - S 7 0) S w)) ∨ ((∀ w, w ≤ 4 → z ≠ nI w) ∧ r = -1)) := by
  refine Met.ofW (cc := b_PD_count) (maxL := 2) (ret := (some .int)) (by decide) rfl ?_
  intro p e s m args below meth c s₁ B hml hv
  obtain ⟨rfl, hsz, hP, hK, hD0⟩ := hv
  have hx := B.exec
  have hb := B.bytes
  have hret := B.returns
  have hts := atoms_spec (ws := w_PD_count) B.pre
  have hg : ∀ w ∈ wsG, w.before _ s = true := fun w h => hts w (List.mem_cons_of_mem _ h)
  have hown : s.vm.findClass "PageDrive" = some m.cls := findClass_of_methodNamed B.named
  have hlocks := B.notSynchronized
  subst hsz
  have hD := hD0.self (sz := s.heap.size)
  generalize hAe : va_A (pw n ad cI cB cE S) s.heap.size = A at hD ⊢
  have hA : ∀ q : Nat, s.heap.size ≤ q → A q := fun q h => by rw [← hAe]; exact Or.inr h
  have hS : va_S A s.heap s.heap [] := va_S.rf
  have hl := lv_entry ([.ref (ad 0), .int z]) (n := 2) (Nat.le_of_ble_eq_true rfl)
  rw [lg_entry_eq]
  generalize (lg_sl ([.ref (ad 0), .int z]) ++ List.replicate (2 - (lg_sl ([.ref (ad 0), .int z])).length) Slot.unset).toArray = ls at hl ⊢
  have hl : lv_has ls 2 [(0, .ref (ad 0)), (1, .int z)] := hl
  refine lv_iload_n hx hb d_PD_count_0 rfl (lv_at hl 1 rfl) ?_
  by_cases hz : ∃ w, w ≤ 4 ∧ z = nI w
  · obtain ⟨w0, hw, rfl⟩ := hz
    rcases (show w0 = 0 ∨ w0 = 1 ∨ w0 = 2 ∨ w0 = 3 ∨ w0 = 4 by omega) with rfl | rfl | rfl | rfl | rfl
    · refine lv_tableIn (tgt := 36) hx hb d_PD_count_1 (by decide) (by decide) rfl (by decide) ?_
      refine lv_aload_n hx hb d_PD_count_36 rfl (lv_at hl 0 rfl) ?_
      refine va_get (C := "PageDrive") (T := F_PD) (N := 4) hx hb hg iw_PD hown hK hP (0) pw_g0 rfl 0 (by decide) (hg (Cond.fieldLink "PageDrive" 23 "PageDrive" "pool" "LPageDrive$Pool;") (wG_m3 (List.mem_of_getElem? (i := 17) rfl))) (fun _ h9 => h9) rfl d_PD_count_37 ?_
      refine va_get (C := "PageDrive$Pool") (T := F_PO) (N := 6) hx hb hg iw_PO hown hK hP (1) pw_g1 rfl 0 (by decide) (hg (Cond.fieldLink "PageDrive" 159 "PageDrive$Pool" "pages" "I") (wG_m1 (List.mem_of_getElem? (i := 37) rfl))) (fun _ h9 => h9) rfl d_PD_count_40 ?_
      refine lv_aload_n hx hb d_PD_count_43 rfl (lv_at hl 0 rfl) ?_
      refine va_get (C := "PageDrive") (T := F_PD) (N := 4) hx hb hg iw_PD hown hK hP (0) pw_g0 rfl 0 (by decide) (hg (Cond.fieldLink "PageDrive" 23 "PageDrive" "pool" "LPageDrive$Pool;") (wG_m3 (List.mem_of_getElem? (i := 17) rfl))) (fun _ h9 => h9) rfl d_PD_count_44 ?_
      refine va_get (C := "PageDrive$Pool") (T := F_PO) (N := 6) hx hb hg iw_PO hown hK hP (1) pw_g1 rfl 4 (by decide) (hg (Cond.fieldLink "PageDrive" 162 "PageDrive$Pool" "unusedCount" "I") (wG_m2 (List.mem_of_getElem? (i := 3) rfl))) (fun _ h9 => h9) rfl d_PD_count_47 ?_
      refine pq_isub hx hb (by omega) d_PD_count_50 ?_
      exact W.iret (v := (nI (n - (S 7 0)))) hx hb hret (fun t9 ht9 hW9 => ⟨⟨_, (), rfl, Or.inl ⟨0, by omega, rfl, rfl⟩, by rw [ht9]; exact hP, va_K.moved hW9.alike hK, hD⟩, hS.F ht9⟩) hS.2.2 d_PD_count_51
    · refine lv_tableIn (tgt := 52) hx hb d_PD_count_1 (by decide) (by decide) rfl (by decide) ?_
      refine lv_aload_n hx hb d_PD_count_52 rfl (lv_at hl 0 rfl) ?_
      refine va_get (C := "PageDrive") (T := F_PD) (N := 4) hx hb hg iw_PD hown hK hP (0) pw_g0 rfl 0 (by decide) (hg (Cond.fieldLink "PageDrive" 23 "PageDrive" "pool" "LPageDrive$Pool;") (wG_m3 (List.mem_of_getElem? (i := 17) rfl))) (fun _ h9 => h9) rfl d_PD_count_53 ?_
      refine va_get (C := "PageDrive$Pool") (T := F_PO) (N := 6) hx hb hg iw_PO hown hK hP (1) pw_g1 rfl 0 (by decide) (hg (Cond.fieldLink "PageDrive" 159 "PageDrive$Pool" "pages" "I") (wG_m1 (List.mem_of_getElem? (i := 37) rfl))) (fun _ h9 => h9) rfl d_PD_count_56 ?_
      exact W.iret (v := (nI n)) hx hb hret (fun t9 ht9 hW9 => ⟨⟨_, (), rfl, Or.inl ⟨1, by omega, rfl, rfl⟩, by rw [ht9]; exact hP, va_K.moved hW9.alike hK, hD⟩, hS.F ht9⟩) hS.2.2 d_PD_count_59
    · refine lv_tableIn (tgt := 60) hx hb d_PD_count_1 (by decide) (by decide) rfl (by decide) ?_
      refine lv_aload_n hx hb d_PD_count_60 rfl (lv_at hl 0 rfl) ?_
      refine va_get (C := "PageDrive") (T := F_PD) (N := 4) hx hb hg iw_PD hown hK hP (0) pw_g0 rfl 0 (by decide) (hg (Cond.fieldLink "PageDrive" 23 "PageDrive" "pool" "LPageDrive$Pool;") (wG_m3 (List.mem_of_getElem? (i := 17) rfl))) (fun _ h9 => h9) rfl d_PD_count_61 ?_
      refine va_get (C := "PageDrive$Pool") (T := F_PO) (N := 6) hx hb hg iw_PO hown hK hP (1) pw_g1 rfl 5 (by decide) (hg (Cond.fieldLink "PageDrive" 165 "PageDrive$Pool" "copied" "I") (wG_m2 (List.mem_of_getElem? (i := 5) rfl))) (fun _ h9 => h9) rfl d_PD_count_64 ?_
      exact W.iret (v := (nI (S 7 1))) hx hb hret (fun t9 ht9 hW9 => ⟨⟨_, (), rfl, Or.inl ⟨2, by omega, rfl, rfl⟩, by rw [ht9]; exact hP, va_K.moved hW9.alike hK, hD⟩, hS.F ht9⟩) hS.2.2 d_PD_count_67
    · refine lv_tableIn (tgt := 68) hx hb d_PD_count_1 (by decide) (by decide) rfl (by decide) ?_
      refine lv_aload_n hx hb d_PD_count_68 rfl (lv_at hl 0 rfl) ?_
      refine va_get (C := "PageDrive") (T := F_PD) (N := 4) hx hb hg iw_PD hown hK hP (0) pw_g0 rfl 3 (by decide) (hg (Cond.fieldLink "PageDrive" 38 "PageDrive" "taped" "I") (wG_m3 (List.mem_of_getElem? (i := 20) rfl))) (fun _ h9 => h9) rfl d_PD_count_69 ?_
      exact W.iret (v := (nI (S 7 2))) hx hb hret (fun t9 ht9 hW9 => ⟨⟨_, (), rfl, Or.inl ⟨3, by omega, rfl, rfl⟩, by rw [ht9]; exact hP, va_K.moved hW9.alike hK, hD⟩, hS.F ht9⟩) hS.2.2 d_PD_count_72
    · refine lv_tableIn (tgt := 73) hx hb d_PD_count_1 (by decide) (by decide) rfl (by decide) ?_
      refine lv_aload_n hx hb d_PD_count_73 rfl (lv_at hl 0 rfl) ?_
      refine pw_callip (va_runV (As := []) (rest := []) ⟨hx, hb, hml, hown, hg⟩ (c_PD_filesThere l dC dI cI cB cE cL cZ n ad S h5 s.heap.size) (cwV 0 hg (gi_V (fun _ h => h) (wG_m4 (List.mem_of_getElem? (i := 26) rfl)) (wG_m4 (List.mem_of_getElem? (i := 27) rfl)) (wG_m14 (List.mem_of_getElem? (i := 4) rfl)) (wG_m1 (List.mem_of_getElem? (i := 1) rfl)) (wG_m4 (List.mem_of_getElem? (i := 28) rfl))) rfl rfl rfl (by decide +kernel) ⟨Nat.le_of_ble_eq_true rfl, Nat.le_of_ble_eq_true rfl⟩) (pw_pv hK hP hD (va_recv hK hP (ci := 0) (q0 := 0) rfl pw_g0) []) rfl rfl hl.1 rfl (lv_room (Nat.le_of_ble_eq_true rfl)) d_PD_count_74 ⟨Nat.le_of_ble_eq_true rfl, Nat.le_of_ble_eq_true rfl⟩) hD hS hA (fun r1 H locs hr hP hD hS => ?_)
      subst hr
      exact W.iret (v := (nI (pd_th S))) hx hb hret (fun t9 ht9 hW9 => ⟨⟨_, (), rfl, Or.inl ⟨4, by omega, rfl, rfl⟩, by rw [ht9]; exact hP, va_K.moved hW9.alike hK, hD⟩, hS.F ht9⟩) hS.2.2 d_PD_count_77
  · have hz2 : ∀ w, w ≤ 4 → z ≠ nI w := fun w h q => hz ⟨w, h, q⟩
    refine lv_tableOut (tgt := 78) hx hb d_PD_count_1 (pd_sw (b := 4) (by decide) hz2) (by decide) ?_
    refine lv_iconst (v := (-1)) hx hb d_PD_count_78 (by decide) ?_
    exact W.iret (v := (-1)) hx hb hret (fun t9 ht9 hW9 => ⟨⟨_, (), rfl, Or.inr ⟨hz2, rfl⟩, by rw [ht9]; exact hP, va_K.moved hW9.alike hK, hD⟩, hS.F ht9⟩) hS.2.2 d_PD_count_79
set_option maxHeartbeats 4000000 in
set_option maxRecDepth 100000 in
/-- crashAll -/
theorem c_PD_crashAll (l : Launch) (dC : Nat → ClassId) (dI : Nat → Nat → Nat) (cI cB cE cL cZ : ClassId) (n : Nat) (ad : Nat → Nat) (S : pdS) (x : Int64) (hn : n ≤ 1024) (hv : pd_v n S) (ho : pd_ok n S (pd_ct S)) (hlw : pd_lo S) (sz : Nat) : CMi l (dC, dI) (pw_ty cI cB cE cL cZ) y_PD_crashAll w_PD_crashAll ({ frames := 5, cells := 0, slots := 0, locals := 127 }) [.ref (ad 0), .long x] (pw n ad cI cB cE S) (pw n ad cI cB cE) sz (fun r S2 => ∃ y, pd_al S x 16 S2 y ∧ r = nI (pd_th S2) ∧ pd_v n S2 ∧ pd_ok n S2 (pd_ct S2) ∧ pd_lo S2) := by
  refine Met.ofW (cc := b_PD_crashAll) (maxL := 6) (ret := (some .int)) (by decide) rfl ?_
  intro p e s m args below meth c s₁ B hml hv
  obtain ⟨rfl, hsz, hP, hK, hD0⟩ := hv
  have hx := B.exec
  have hb := B.bytes
  have hret := B.returns
  have hts := atoms_spec (ws := w_PD_crashAll) B.pre
  have hg : ∀ w ∈ wsG, w.before _ s = true := fun w h => hts w (List.mem_cons_of_mem _ h)
  have hown : s.vm.findClass "PageDrive" = some m.cls := findClass_of_methodNamed B.named
  have hlocks := B.notSynchronized
  subst hsz
  have hD := hD0.self (sz := s.heap.size)
  generalize hAe : va_A (pw n ad cI cB cE S) s.heap.size = A at hD ⊢
  have hA : ∀ q : Nat, s.heap.size ≤ q → A q := fun q h => by rw [← hAe]; exact Or.inr h
  have hS : va_S A s.heap s.heap [] := va_S.rf
  have hl := lv_entry ([.ref (ad 0), .long x]) (n := 6) (Nat.le_of_ble_eq_true rfl)
  rw [lg_entry_eq]
  generalize (lg_sl ([.ref (ad 0), .long x]) ++ List.replicate (6 - (lg_sl ([.ref (ad 0), .long x])).length) Slot.unset).toArray = ls at hl ⊢
  have hl : lv_has ls 6 [(0, .ref (ad 0)), (1, .long x)] := hl
  refine lv_lload_n hx hb d_PD_crashAll_0 rfl (lv_at hl 1 rfl) ?_
  refine lv_lstore_n (lv' := [(3, .long x), (0, .ref (ad 0)), (1, .long x)]) hx hb d_PD_crashAll_1 rfl hl (by decide) rfl (fun ls hl => ?_)
  refine lv_iconst (v := nI 0) hx hb d_PD_crashAll_2 (by decide) ?_
  refine lv_istore (lv' := [(5, .int (nI 0)), (3, .long x), (0, .ref (ad 0)), (1, .long x)]) hx hb d_PD_crashAll_3 hl (by decide) rfl (fun ls hl => ?_)
  refine pw_loop (fun mm H locs ls => ∃ (T : pdS) (z : Int64) (k : Nat), mm = 16 - k ∧ k ≤ 16 ∧ pd_al S x k T z ∧ pd_v n T ∧ pd_ok n T (pd_ct T) ∧ pd_lo T ∧ va_P (dC, dI) pwCl (pw n ad cI cB cE T) H ∧ va_D A (pw n ad cI cB cE T) ∧ va_S A s.heap H locs ∧ lv_has ls 6 [(5, .int (nI k)), (3, .long z), (0, .ref (ad 0)), (1, .long x)]) ?_ _ _ _ _ ⟨S, x, 0, rfl, by omega, ⟨pd_sa_rf S, rfl⟩, hv, ho, hlw, hP, hD, hS, hl⟩
  rintro mm H locs ls ⟨T, z, k, hmm, hk, hal, hvT, hoT, hlT, hP, hD, hS, hl⟩ ih
  refine lv_iload hx hb d_PD_crashAll_5 (lv_at hl 0 rfl) ?_
  refine lv_bipush (v := nI 16) hx hb d_PD_crashAll_7 (by decide) ?_
  refine pq_icmp_ge (tgt := 50) hx hb (by omega) (by omega) d_PD_crashAll_9 (by decide) (fun h1 => ?_) (fun h1 => ?_)
  · have hk16 : k = 16 := by omega
    subst hk16
    refine lv_aload_n hx hb d_PD_crashAll_50 rfl (lv_at hl 2 rfl) ?_
    refine pw_callip (va_runV (As := []) (rest := []) ⟨hx, hb, hml, hown, hg⟩ (c_PD_filesThere l dC dI cI cB cE cL cZ n ad T (fun d hd => (hvT.1 d hd).2.1) H.size) (cwV 0 hg (gi_V (fun _ h => h) (wG_m4 (List.mem_of_getElem? (i := 26) rfl)) (wG_m4 (List.mem_of_getElem? (i := 27) rfl)) (wG_m14 (List.mem_of_getElem? (i := 4) rfl)) (wG_m1 (List.mem_of_getElem? (i := 1) rfl)) (wG_m4 (List.mem_of_getElem? (i := 28) rfl))) rfl rfl rfl (by decide +kernel) ⟨Nat.le_of_ble_eq_true rfl, Nat.le_of_ble_eq_true rfl⟩) (pw_pv hK hP hD (va_recv hK hP (ci := 0) (q0 := 0) rfl pw_g0) []) rfl rfl hl.1 rfl (lv_room (Nat.le_of_ble_eq_true rfl)) d_PD_crashAll_51 ⟨Nat.le_of_ble_eq_true rfl, Nat.le_of_ble_eq_true rfl⟩) hD hS hA (fun r1 H locs hr hP hD hS => ?_)
    subst hr
    exact W.iret (v := (nI (pd_th T))) hx hb hret (fun t9 ht9 hW9 => ⟨⟨_, T, rfl, ⟨z, hal, rfl, hvT, hoT, hlT⟩, by rw [ht9]; exact hP, va_K.moved hW9.alike hK, hD⟩, hS.F ht9⟩) hS.2.2 d_PD_crashAll_54
  · have hs4 := (hvT.1 (2 * k) (by omega)).1
    have hlk := hlT k (by omega)
    refine lv_lload_n hx hb d_PD_crashAll_12 rfl (lv_at hl 1 rfl) ?_
    refine lv_ldc2 hx hb hown (hg (Cond.constantLong "PageDrive" 129 (6364136223846793005)) (wG_m3 (List.mem_of_getElem? (i := 34) rfl))) d_PD_crashAll_13 ?_
    refine lv_lmul hx hb d_PD_crashAll_16 ?_
    refine lv_ldc2 hx hb hown (hg (Cond.constantLong "PageDrive" 131 (1442695040888963407)) (wG_m3 (List.mem_of_getElem? (i := 35) rfl))) d_PD_crashAll_17 ?_
    refine lv_ladd hx hb d_PD_crashAll_20 ?_
    generalize hy : z * 6364136223846793005 + 1442695040888963407 = y
    refine lv_lstore_n (lv' := [(3, .long y), (5, .int (nI k)), (0, .ref (ad 0)), (1, .long x)]) hx hb d_PD_crashAll_21 rfl hl (by decide) rfl (fun ls hl => ?_)
    refine lv_aload_n hx hb d_PD_crashAll_22 rfl (lv_at hl 2 rfl) ?_
    refine lv_aload_n hx hb d_PD_crashAll_23 rfl (lv_at hl 2 rfl) ?_
    refine va_get (C := "PageDrive") (T := F_PD) (N := 4) hx hb hg iw_PD hown hK hP (0) pw_g0 rfl 1 (by decide) (hg (Cond.fieldLink "PageDrive" 29 "PageDrive" "entries" "[LPageDrive$Entry;") (wG_m3 (List.mem_of_getElem? (i := 18) rfl))) (fun _ h9 => h9) rfl d_PD_crashAll_24 ?_
    refine lv_iload hx hb d_PD_crashAll_27 (lv_at hl 1 rfl) ?_
    refine pr_ent hx hb hK hP (i := k) (by omega) rfl d_PD_crashAll_29 ?_
    refine lv_lload_n hx hb d_PD_crashAll_30 rfl (lv_at hl 0 rfl) ?_
    refine lv_aload_n hx hb d_PD_crashAll_31 rfl (lv_at hl 2 rfl) ?_
    refine va_get (C := "PageDrive") (T := F_PD) (N := 4) hx hb hg iw_PD hown hK hP (0) pw_g0 rfl 1 (by decide) (hg (Cond.fieldLink "PageDrive" 29 "PageDrive" "entries" "[LPageDrive$Entry;") (wG_m3 (List.mem_of_getElem? (i := 18) rfl))) (fun _ h9 => h9) rfl d_PD_crashAll_32 ?_
    refine lv_iload hx hb d_PD_crashAll_35 (lv_at hl 1 rfl) ?_
    refine pr_ent hx hb hK hP (i := k) (by omega) rfl d_PD_crashAll_37 ?_
    refine pw_callip (va_runS (As := [.long y, .ref (ad (7 + k))]) (rest := [.ref (ad (7 + k)), .ref (ad 0)]) ⟨hx, hb, hml, hown, hg⟩ (c_PD_keepOf l dC dI cI cB cE cL cZ n ad T y k (by omega) hlk hs4 H.size) (cwS 2 hg (gi_S (fun _ h => h) (wG_m3 (List.mem_of_getElem? (i := 36) rfl)) (wG_m3 (List.mem_of_getElem? (i := 37) rfl)) (wG_m1 (List.mem_of_getElem? (i := 1) rfl)) (wG_m3 (List.mem_of_getElem? (i := 38) rfl))) rfl rfl rfl (by decide +kernel) ⟨Nat.le_of_ble_eq_true rfl, Nat.le_of_ble_eq_true rfl⟩) (pw_ps hK hP hD [.long y, .ref (ad (7 + k))]) rfl rfl hl.1 rfl (lv_room (Nat.le_of_ble_eq_true rfl)) d_PD_crashAll_38 ⟨Nat.le_of_ble_eq_true rfl, Nat.le_of_ble_eq_true rfl⟩) hD hS hA (fun r3 H locs hr hP hD hS => ?_)
    subst hr
    have hkb : pd_kp y (T 4 (2 * k)) (T 6 k) < 2 ^ 31 := by unfold pd_kp; split; omega; have := Nat.mod_lt (y.toBitVec.toNat / 2 ^ 33 % 2 ^ 20) (show 0 < 2 * (T 4 (2 * k) - T 6 k) + 1 by omega); omega
    refine pw_callv (va_runV (As := [.ref (ad (7 + k)), .int (nI (pd_kp y (T 4 (2 * k)) (T 6 k)))]) (rest := []) ⟨hx, hb, hml, hown, hg⟩ (c_PD_fall l dC dI cI cB cE cL cZ n ad T k (pd_kp y (T 4 (2 * k)) (T 6 k)) hn hvT hoT (by omega) hlk hkb H.size) (cwV 2 hg (gi_V (fun _ h => h) (wG_m4 (List.mem_of_getElem? (i := 0) rfl)) (wG_m4 (List.mem_of_getElem? (i := 1) rfl)) (wG_m14 (List.mem_of_getElem? (i := 0) rfl)) (wG_m1 (List.mem_of_getElem? (i := 1) rfl)) (wG_m4 (List.mem_of_getElem? (i := 2) rfl))) rfl rfl rfl (by decide +kernel) ⟨Nat.le_of_ble_eq_true rfl, Nat.le_of_ble_eq_true rfl⟩) (pw_pv hK hP hD (va_recv hK hP (ci := 0) (q0 := 0) rfl pw_g0) [.ref (ad (7 + k)), .int (nI (pd_kp y (T 4 (2 * k)) (T 6 k)))]) rfl rfl hl.1 rfl (lv_room (Nat.le_of_ble_eq_true rfl)) d_PD_crashAll_41 ⟨Nat.le_of_ble_eq_true rfl, Nat.le_of_ble_eq_true rfl⟩) hD hS hA (fun T2 H locs hr hP hD hS => ?_)
    refine lv_iinc (v := (nI (k + 1))) (lv' := [(5, .int (nI (k + 1))), (3, .long y), (0, .ref (ad 0)), (1, .long x)]) hx hb d_PD_crashAll_44 hl (k := 1) rfl (pq_inc _) (by decide) rfl (fun ls hl => ?_)
    refine lv_goto (tgt := 5) hx hb d_PD_crashAll_47 (by decide) ?_
    exact ih _ _ _ _ (by omega) ⟨T2, y, k + 1, rfl, by omega, ⟨T, z, hal, hy.symm, hr.1⟩, pd_fal_v hr.1 (by omega) hvT, hr.2, pd_fal_lo hr.1 (by omega) hlT, hP, hD, hS, hl⟩
end
section
theorem d_MO_init_0 : decode b_MO_init 0 = .ok (.aload_n 0, 1) := by decide +kernel
theorem d_MO_init_1 : decode b_MO_init 1 = .ok (.invokespecial 1, 3) := by decide +kernel
theorem d_MO_init_4 : decode b_MO_init 4 = .ok (.aload_n 0, 1) := by decide +kernel
theorem d_MO_init_5 : decode b_MO_init 5 = .ok (.sipush 4096, 3) := by decide +kernel
theorem d_MO_init_8 : decode b_MO_init 8 = .ok (.newarray .int, 2) := by decide +kernel
theorem d_MO_init_10 : decode b_MO_init 10 = .ok (.putfield 7, 3) := by decide +kernel
theorem d_MO_init_13 : decode b_MO_init 13 = .ok (.aload_n 0, 1) := by decide +kernel
theorem d_MO_init_14 : decode b_MO_init 14 = .ok (.sipush 8192, 3) := by decide +kernel
theorem d_MO_init_17 : decode b_MO_init 17 = .ok (.newarray .long, 2) := by decide +kernel
theorem d_MO_init_19 : decode b_MO_init 19 = .ok (.putfield 13, 3) := by decide +kernel
theorem d_MO_init_22 : decode b_MO_init 22 = .ok (.aload_n 0, 1) := by decide +kernel
theorem d_MO_init_23 : decode b_MO_init 23 = .ok (.sipush 12800, 3) := by decide +kernel
theorem d_MO_init_26 : decode b_MO_init 26 = .ok (.newarray .int, 2) := by decide +kernel
theorem d_MO_init_28 : decode b_MO_init 28 = .ok (.putfield 17, 3) := by decide +kernel
theorem d_MO_init_31 : decode b_MO_init 31 = .ok (.aload_n 0, 1) := by decide +kernel
theorem d_MO_init_32 : decode b_MO_init 32 = .ok (.bipush 32, 2) := by decide +kernel
theorem d_MO_init_34 : decode b_MO_init 34 = .ok (.newarray .int, 2) := by decide +kernel
theorem d_MO_init_36 : decode b_MO_init 36 = .ok (.putfield 20, 3) := by decide +kernel
theorem d_MO_init_39 : decode b_MO_init 39 = .ok (.aload_n 0, 1) := by decide +kernel
theorem d_MO_init_40 : decode b_MO_init 40 = .ok (.bipush 32, 2) := by decide +kernel
theorem d_MO_init_42 : decode b_MO_init 42 = .ok (.newarray .boolean, 2) := by decide +kernel
theorem d_MO_init_44 : decode b_MO_init 44 = .ok (.putfield 23, 3) := by decide +kernel
theorem d_MO_init_47 : decode b_MO_init 47 = .ok (.aload_n 0, 1) := by decide +kernel
theorem d_MO_init_48 : decode b_MO_init 48 = .ok (.bipush 16, 2) := by decide +kernel
theorem d_MO_init_50 : decode b_MO_init 50 = .ok (.newarray .int, 2) := by decide +kernel
theorem d_MO_init_52 : decode b_MO_init 52 = .ok (.putfield 27, 3) := by decide +kernel
theorem d_MO_init_55 : decode b_MO_init 55 = .ok (.aload_n 0, 1) := by decide +kernel
theorem d_MO_init_56 : decode b_MO_init 56 = .ok (.sipush 1024, 3) := by decide +kernel
theorem d_MO_init_59 : decode b_MO_init 59 = .ok (.newarray .int, 2) := by decide +kernel
theorem d_MO_init_61 : decode b_MO_init 61 = .ok (.putfield 30, 3) := by decide +kernel
theorem d_MO_init_64 : decode b_MO_init 64 = .ok (.aload_n 0, 1) := by decide +kernel
theorem d_MO_init_65 : decode b_MO_init 65 = .ok (.iload_n 1, 1) := by decide +kernel
theorem d_MO_init_66 : decode b_MO_init 66 = .ok (.iconst 4, 1) := by decide +kernel
theorem d_MO_init_67 : decode b_MO_init 67 = .ok (.if_icmp .ge 7, 3) := by decide +kernel
theorem d_MO_init_70 : decode b_MO_init 70 = .ok (.iconst 4, 1) := by decide +kernel
theorem d_MO_init_71 : decode b_MO_init 71 = .ok (.goto 17, 3) := by decide +kernel
theorem d_MO_init_74 : decode b_MO_init 74 = .ok (.iload_n 1, 1) := by decide +kernel
theorem d_MO_init_75 : decode b_MO_init 75 = .ok (.sipush 1024, 3) := by decide +kernel
theorem d_MO_init_78 : decode b_MO_init 78 = .ok (.if_icmp .le 9, 3) := by decide +kernel
theorem d_MO_init_81 : decode b_MO_init 81 = .ok (.sipush 1024, 3) := by decide +kernel
theorem d_MO_init_84 : decode b_MO_init 84 = .ok (.goto 4, 3) := by decide +kernel
theorem d_MO_init_87 : decode b_MO_init 87 = .ok (.iload_n 1, 1) := by decide +kernel
theorem d_MO_init_88 : decode b_MO_init 88 = .ok (.putfield 33, 3) := by decide +kernel
theorem d_MO_init_91 : decode b_MO_init 91 = .ok (.return_, 1) := by decide +kernel
theorem d_MO_thrown_0 : decode b_MO_thrown 0 = .ok (.aload_n 0, 1) := by decide +kernel
theorem d_MO_thrown_1 : decode b_MO_thrown 1 = .ok (.getfield 37, 3) := by decide +kernel
theorem d_MO_thrown_4 : decode b_MO_thrown 4 = .ok (.ireturn, 1) := by decide +kernel
theorem d_MO_fail_0 : decode b_MO_fail 0 = .ok (.aload_n 0, 1) := by decide +kernel
theorem d_MO_fail_1 : decode b_MO_fail 1 = .ok (.iload_n 1, 1) := by decide +kernel
theorem d_MO_fail_2 : decode b_MO_fail 2 = .ok (.putfield 37, 3) := by decide +kernel
theorem d_MO_fail_5 : decode b_MO_fail 5 = .ok (.iconst 0, 1) := by decide +kernel
theorem d_MO_fail_6 : decode b_MO_fail 6 = .ok (.ireturn, 1) := by decide +kernel
theorem d_MO_within_0 : decode b_MO_within 0 = .ok (.iload_n 0, 1) := by decide +kernel
theorem d_MO_within_1 : decode b_MO_within 1 = .ok (.iload_n 1, 1) := by decide +kernel
theorem d_MO_within_2 : decode b_MO_within 2 = .ok (.if_icmp .lt 12, 3) := by decide +kernel
theorem d_MO_within_5 : decode b_MO_within 5 = .ok (.iload_n 0, 1) := by decide +kernel
theorem d_MO_within_6 : decode b_MO_within 6 = .ok (.iload_n 2, 1) := by decide +kernel
theorem d_MO_within_7 : decode b_MO_within 7 = .ok (.if_icmp .gt 7, 3) := by decide +kernel
theorem d_MO_within_10 : decode b_MO_within 10 = .ok (.iconst 1, 1) := by decide +kernel
theorem d_MO_within_11 : decode b_MO_within 11 = .ok (.goto 4, 3) := by decide +kernel
theorem d_MO_within_14 : decode b_MO_within 14 = .ok (.iconst 0, 1) := by decide +kernel
theorem d_MO_within_15 : decode b_MO_within 15 = .ok (.ireturn, 1) := by decide +kernel
theorem d_MO_noFile_0 : decode b_MO_noFile 0 = .ok (.iload_n 0, 1) := by decide +kernel
theorem d_MO_noFile_1 : decode b_MO_noFile 1 = .ok (.iconst 0, 1) := by decide +kernel
theorem d_MO_noFile_2 : decode b_MO_noFile 2 = .ok (.bipush 15, 2) := by decide +kernel
theorem d_MO_noFile_4 : decode b_MO_noFile 4 = .ok (.invokestatic 40, 3) := by decide +kernel
theorem d_MO_noFile_7 : decode b_MO_noFile 7 = .ok (.ifCond .ne 7, 3) := by decide +kernel
theorem d_MO_noFile_10 : decode b_MO_noFile 10 = .ok (.iconst 1, 1) := by decide +kernel
theorem d_MO_noFile_11 : decode b_MO_noFile 11 = .ok (.goto 4, 3) := by decide +kernel
theorem d_MO_noFile_14 : decode b_MO_noFile 14 = .ok (.iconst 0, 1) := by decide +kernel
theorem d_MO_noFile_15 : decode b_MO_noFile 15 = .ok (.ireturn, 1) := by decide +kernel
theorem d_MO_feed_0 : decode b_MO_feed 0 = .ok (.aload_n 0, 1) := by decide +kernel
theorem d_MO_feed_1 : decode b_MO_feed 1 = .ok (.iconst 0, 1) := by decide +kernel
theorem d_MO_feed_2 : decode b_MO_feed 2 = .ok (.putfield 37, 3) := by decide +kernel
theorem d_MO_feed_5 : decode b_MO_feed 5 = .ok (.iload_n 3, 1) := by decide +kernel
theorem d_MO_feed_6 : decode b_MO_feed 6 = .ok (.iconst 1, 1) := by decide +kernel
theorem d_MO_feed_7 : decode b_MO_feed 7 = .ok (.bipush 8, 2) := by decide +kernel
theorem d_MO_feed_9 : decode b_MO_feed 9 = .ok (.invokestatic 40, 3) := by decide +kernel
theorem d_MO_feed_12 : decode b_MO_feed 12 = .ok (.ifCond .ne 9, 3) := by decide +kernel
theorem d_MO_feed_15 : decode b_MO_feed 15 = .ok (.aload_n 0, 1) := by decide +kernel
theorem d_MO_feed_16 : decode b_MO_feed 16 = .ok (.iconst 1, 1) := by decide +kernel
theorem d_MO_feed_17 : decode b_MO_feed 17 = .ok (.invokevirtual 44, 3) := by decide +kernel
theorem d_MO_feed_20 : decode b_MO_feed 20 = .ok (.ireturn, 1) := by decide +kernel
theorem d_MO_feed_21 : decode b_MO_feed 21 = .ok (.aload_n 0, 1) := by decide +kernel
theorem d_MO_feed_22 : decode b_MO_feed 22 = .ok (.getfield 48, 3) := by decide +kernel
theorem d_MO_feed_25 : decode b_MO_feed 25 = .ok (.iload_n 3, 1) := by decide +kernel
theorem d_MO_feed_26 : decode b_MO_feed 26 = .ok (.iadd, 1) := by decide +kernel
theorem d_MO_feed_27 : decode b_MO_feed 27 = .ok (.sipush 4096, 3) := by decide +kernel
theorem d_MO_feed_30 : decode b_MO_feed 30 = .ok (.if_icmp .le 9, 3) := by decide +kernel
theorem d_MO_feed_33 : decode b_MO_feed 33 = .ok (.aload_n 0, 1) := by decide +kernel
theorem d_MO_feed_34 : decode b_MO_feed 34 = .ok (.iconst 2, 1) := by decide +kernel
theorem d_MO_feed_35 : decode b_MO_feed 35 = .ok (.invokevirtual 44, 3) := by decide +kernel
theorem d_MO_feed_38 : decode b_MO_feed 38 = .ok (.ireturn, 1) := by decide +kernel
theorem d_MO_feed_39 : decode b_MO_feed 39 = .ok (.iconst 0, 1) := by decide +kernel
theorem d_MO_feed_40 : decode b_MO_feed 40 = .ok (.istore 4, 2) := by decide +kernel
theorem d_MO_feed_42 : decode b_MO_feed 42 = .ok (.iload 4, 2) := by decide +kernel
theorem d_MO_feed_44 : decode b_MO_feed 44 = .ok (.iload_n 3, 1) := by decide +kernel
theorem d_MO_feed_45 : decode b_MO_feed 45 = .ok (.if_icmp .ge 33, 3) := by decide +kernel
theorem d_MO_feed_48 : decode b_MO_feed 48 = .ok (.aload_n 0, 1) := by decide +kernel
theorem d_MO_feed_49 : decode b_MO_feed 49 = .ok (.getfield 7, 3) := by decide +kernel
theorem d_MO_feed_52 : decode b_MO_feed 52 = .ok (.aload_n 0, 1) := by decide +kernel
theorem d_MO_feed_53 : decode b_MO_feed 53 = .ok (.getfield 48, 3) := by decide +kernel
theorem d_MO_feed_56 : decode b_MO_feed 56 = .ok (.iload 4, 2) := by decide +kernel
theorem d_MO_feed_58 : decode b_MO_feed 58 = .ok (.iadd, 1) := by decide +kernel
theorem d_MO_feed_59 : decode b_MO_feed 59 = .ok (.lload_n 1, 1) := by decide +kernel
theorem d_MO_feed_60 : decode b_MO_feed 60 = .ok (.bipush 8, 2) := by decide +kernel
theorem d_MO_feed_62 : decode b_MO_feed 62 = .ok (.iload 4, 2) := by decide +kernel
theorem d_MO_feed_64 : decode b_MO_feed 64 = .ok (.imul, 1) := by decide +kernel
theorem d_MO_feed_65 : decode b_MO_feed 65 = .ok (.lshr, 1) := by decide +kernel
theorem d_MO_feed_66 : decode b_MO_feed 66 = .ok (.ldc2_w 51, 3) := by decide +kernel
theorem d_MO_feed_69 : decode b_MO_feed 69 = .ok (.land, 1) := by decide +kernel
theorem d_MO_feed_70 : decode b_MO_feed 70 = .ok (.l2i, 1) := by decide +kernel
theorem d_MO_feed_71 : decode b_MO_feed 71 = .ok (.iastore, 1) := by decide +kernel
theorem d_MO_feed_72 : decode b_MO_feed 72 = .ok (.iinc 4 1, 3) := by decide +kernel
theorem d_MO_feed_75 : decode b_MO_feed 75 = .ok (.goto (-33), 3) := by decide +kernel
theorem d_MO_feed_78 : decode b_MO_feed 78 = .ok (.aload_n 0, 1) := by decide +kernel
theorem d_MO_feed_79 : decode b_MO_feed 79 = .ok (.dup, 1) := by decide +kernel
theorem d_MO_feed_80 : decode b_MO_feed 80 = .ok (.getfield 48, 3) := by decide +kernel
theorem d_MO_feed_83 : decode b_MO_feed 83 = .ok (.iload_n 3, 1) := by decide +kernel
theorem d_MO_feed_84 : decode b_MO_feed 84 = .ok (.iadd, 1) := by decide +kernel
theorem d_MO_feed_85 : decode b_MO_feed 85 = .ok (.putfield 48, 3) := by decide +kernel
theorem d_MO_feed_88 : decode b_MO_feed 88 = .ok (.aload_n 0, 1) := by decide +kernel
theorem d_MO_feed_89 : decode b_MO_feed 89 = .ok (.getfield 48, 3) := by decide +kernel
theorem d_MO_feed_92 : decode b_MO_feed 92 = .ok (.ireturn, 1) := by decide +kernel
theorem d_MO_needed_0 : decode b_MO_needed 0 = .ok (.iload_n 0, 1) := by decide +kernel
theorem d_MO_needed_1 : decode b_MO_needed 1 = .ok (.bipush 64, 2) := by decide +kernel
theorem d_MO_needed_3 : decode b_MO_needed 3 = .ok (.iadd, 1) := by decide +kernel
theorem d_MO_needed_4 : decode b_MO_needed 4 = .ok (.iconst 1, 1) := by decide +kernel
theorem d_MO_needed_5 : decode b_MO_needed 5 = .ok (.isub, 1) := by decide +kernel
theorem d_MO_needed_6 : decode b_MO_needed 6 = .ok (.bipush 64, 2) := by decide +kernel
theorem d_MO_needed_8 : decode b_MO_needed 8 = .ok (.idiv, 1) := by decide +kernel
theorem d_MO_needed_9 : decode b_MO_needed 9 = .ok (.ireturn, 1) := by decide +kernel
theorem d_MO_look_0 : decode b_MO_look 0 = .ok (.iconst 0, 1) := by decide +kernel
theorem d_MO_look_1 : decode b_MO_look 1 = .ok (.istore_n 1, 1) := by decide +kernel
theorem d_MO_look_2 : decode b_MO_look 2 = .ok (.iload_n 1, 1) := by decide +kernel
theorem d_MO_look_3 : decode b_MO_look 3 = .ok (.sipush 1024, 3) := by decide +kernel
theorem d_MO_look_6 : decode b_MO_look 6 = .ok (.if_icmp .ge 16, 3) := by decide +kernel
theorem d_MO_look_9 : decode b_MO_look 9 = .ok (.aload_n 0, 1) := by decide +kernel
theorem d_MO_look_10 : decode b_MO_look 10 = .ok (.getfield 30, 3) := by decide +kernel
theorem d_MO_look_13 : decode b_MO_look 13 = .ok (.iload_n 1, 1) := by decide +kernel
theorem d_MO_look_14 : decode b_MO_look 14 = .ok (.iconst 0, 1) := by decide +kernel
theorem d_MO_look_15 : decode b_MO_look 15 = .ok (.iastore, 1) := by decide +kernel
theorem d_MO_look_16 : decode b_MO_look 16 = .ok (.iinc 1 1, 3) := by decide +kernel
theorem d_MO_look_19 : decode b_MO_look 19 = .ok (.goto (-17), 3) := by decide +kernel
theorem d_MO_look_22 : decode b_MO_look 22 = .ok (.iconst 0, 1) := by decide +kernel
theorem d_MO_look_23 : decode b_MO_look 23 = .ok (.istore_n 1, 1) := by decide +kernel
theorem d_MO_look_24 : decode b_MO_look 24 = .ok (.iload_n 1, 1) := by decide +kernel
theorem d_MO_look_25 : decode b_MO_look 25 = .ok (.bipush 32, 2) := by decide +kernel
theorem d_MO_look_27 : decode b_MO_look 27 = .ok (.if_icmp .ge 51, 3) := by decide +kernel
theorem d_MO_look_30 : decode b_MO_look 30 = .ok (.iconst 0, 1) := by decide +kernel
theorem d_MO_look_31 : decode b_MO_look 31 = .ok (.istore_n 2, 1) := by decide +kernel
theorem d_MO_look_32 : decode b_MO_look 32 = .ok (.iload_n 2, 1) := by decide +kernel
theorem d_MO_look_33 : decode b_MO_look 33 = .ok (.aload_n 0, 1) := by decide +kernel
theorem d_MO_look_34 : decode b_MO_look 34 = .ok (.getfield 20, 3) := by decide +kernel
theorem d_MO_look_37 : decode b_MO_look 37 = .ok (.iload_n 1, 1) := by decide +kernel
theorem d_MO_look_38 : decode b_MO_look 38 = .ok (.iaload, 1) := by decide +kernel
theorem d_MO_look_39 : decode b_MO_look 39 = .ok (.invokestatic 53, 3) := by decide +kernel
theorem d_MO_look_42 : decode b_MO_look 42 = .ok (.if_icmp .ge 30, 3) := by decide +kernel
theorem d_MO_look_45 : decode b_MO_look 45 = .ok (.aload_n 0, 1) := by decide +kernel
theorem d_MO_look_46 : decode b_MO_look 46 = .ok (.getfield 30, 3) := by decide +kernel
theorem d_MO_look_49 : decode b_MO_look 49 = .ok (.aload_n 0, 1) := by decide +kernel
theorem d_MO_look_50 : decode b_MO_look 50 = .ok (.getfield 17, 3) := by decide +kernel
theorem d_MO_look_53 : decode b_MO_look 53 = .ok (.sipush 400, 3) := by decide +kernel
theorem d_MO_look_56 : decode b_MO_look 56 = .ok (.iload_n 1, 1) := by decide +kernel
theorem d_MO_look_57 : decode b_MO_look 57 = .ok (.imul, 1) := by decide +kernel
theorem d_MO_look_58 : decode b_MO_look 58 = .ok (.iload_n 2, 1) := by decide +kernel
theorem d_MO_look_59 : decode b_MO_look 59 = .ok (.iadd, 1) := by decide +kernel
theorem d_MO_look_60 : decode b_MO_look 60 = .ok (.iaload, 1) := by decide +kernel
theorem d_MO_look_61 : decode b_MO_look 61 = .ok (.dup2, 1) := by decide +kernel
theorem d_MO_look_62 : decode b_MO_look 62 = .ok (.iaload, 1) := by decide +kernel
theorem d_MO_look_63 : decode b_MO_look 63 = .ok (.iconst 1, 1) := by decide +kernel
theorem d_MO_look_64 : decode b_MO_look 64 = .ok (.iadd, 1) := by decide +kernel
theorem d_MO_look_65 : decode b_MO_look 65 = .ok (.iastore, 1) := by decide +kernel
theorem d_MO_look_66 : decode b_MO_look 66 = .ok (.iinc 2 1, 3) := by decide +kernel
theorem d_MO_look_69 : decode b_MO_look 69 = .ok (.goto (-37), 3) := by decide +kernel
theorem d_MO_look_72 : decode b_MO_look 72 = .ok (.iinc 1 1, 3) := by decide +kernel
theorem d_MO_look_75 : decode b_MO_look 75 = .ok (.goto (-51), 3) := by decide +kernel
theorem d_MO_look_78 : decode b_MO_look 78 = .ok (.iconst 0, 1) := by decide +kernel
theorem d_MO_look_79 : decode b_MO_look 79 = .ok (.istore_n 1, 1) := by decide +kernel
theorem d_MO_look_80 : decode b_MO_look 80 = .ok (.iconst 0, 1) := by decide +kernel
theorem d_MO_look_81 : decode b_MO_look 81 = .ok (.istore_n 2, 1) := by decide +kernel
theorem d_MO_look_82 : decode b_MO_look 82 = .ok (.iload_n 2, 1) := by decide +kernel
theorem d_MO_look_83 : decode b_MO_look 83 = .ok (.sipush 1024, 3) := by decide +kernel
theorem d_MO_look_86 : decode b_MO_look 86 = .ok (.if_icmp .ge 26, 3) := by decide +kernel
theorem d_MO_look_89 : decode b_MO_look 89 = .ok (.iload_n 1, 1) := by decide +kernel
theorem d_MO_look_90 : decode b_MO_look 90 = .ok (.aload_n 0, 1) := by decide +kernel
theorem d_MO_look_91 : decode b_MO_look 91 = .ok (.getfield 30, 3) := by decide +kernel
theorem d_MO_look_94 : decode b_MO_look 94 = .ok (.iload_n 2, 1) := by decide +kernel
theorem d_MO_look_95 : decode b_MO_look 95 = .ok (.iaload, 1) := by decide +kernel
theorem d_MO_look_96 : decode b_MO_look 96 = .ok (.ifCond .le 7, 3) := by decide +kernel
theorem d_MO_look_99 : decode b_MO_look 99 = .ok (.iconst 1, 1) := by decide +kernel
theorem d_MO_look_100 : decode b_MO_look 100 = .ok (.goto 4, 3) := by decide +kernel
theorem d_MO_look_103 : decode b_MO_look 103 = .ok (.iconst 0, 1) := by decide +kernel
theorem d_MO_look_104 : decode b_MO_look 104 = .ok (.iadd, 1) := by decide +kernel
theorem d_MO_look_105 : decode b_MO_look 105 = .ok (.istore_n 1, 1) := by decide +kernel
theorem d_MO_look_106 : decode b_MO_look 106 = .ok (.iinc 2 1, 3) := by decide +kernel
theorem d_MO_look_109 : decode b_MO_look 109 = .ok (.goto (-27), 3) := by decide +kernel
theorem d_MO_look_112 : decode b_MO_look 112 = .ok (.iload_n 1, 1) := by decide +kernel
theorem d_MO_look_113 : decode b_MO_look 113 = .ok (.ireturn, 1) := by decide +kernel
theorem d_MO_fresh_0 : decode b_MO_fresh 0 = .ok (.iconst 0, 1) := by decide +kernel
theorem d_MO_fresh_1 : decode b_MO_fresh 1 = .ok (.istore_n 1, 1) := by decide +kernel
theorem d_MO_fresh_2 : decode b_MO_fresh 2 = .ok (.aload_n 0, 1) := by decide +kernel
theorem d_MO_fresh_3 : decode b_MO_fresh 3 = .ok (.getfield 30, 3) := by decide +kernel
theorem d_MO_fresh_6 : decode b_MO_fresh 6 = .ok (.iload_n 1, 1) := by decide +kernel
theorem d_MO_fresh_7 : decode b_MO_fresh 7 = .ok (.iaload, 1) := by decide +kernel
theorem d_MO_fresh_8 : decode b_MO_fresh 8 = .ok (.ifCond .le 9, 3) := by decide +kernel
theorem d_MO_fresh_11 : decode b_MO_fresh 11 = .ok (.iinc 1 1, 3) := by decide +kernel
theorem d_MO_fresh_14 : decode b_MO_fresh 14 = .ok (.goto (-12), 3) := by decide +kernel
theorem d_MO_fresh_17 : decode b_MO_fresh 17 = .ok (.aload_n 0, 1) := by decide +kernel
theorem d_MO_fresh_18 : decode b_MO_fresh 18 = .ok (.getfield 30, 3) := by decide +kernel
theorem d_MO_fresh_21 : decode b_MO_fresh 21 = .ok (.iload_n 1, 1) := by decide +kernel
theorem d_MO_fresh_22 : decode b_MO_fresh 22 = .ok (.iconst 1, 1) := by decide +kernel
theorem d_MO_fresh_23 : decode b_MO_fresh 23 = .ok (.iastore, 1) := by decide +kernel
theorem d_MO_fresh_24 : decode b_MO_fresh 24 = .ok (.iload_n 1, 1) := by decide +kernel
theorem d_MO_fresh_25 : decode b_MO_fresh 25 = .ok (.ireturn, 1) := by decide +kernel
theorem d_MO_write_0 : decode b_MO_write 0 = .ok (.bipush 8, 2) := by decide +kernel
theorem d_MO_write_2 : decode b_MO_write 2 = .ok (.iload_n 1, 1) := by decide +kernel
theorem d_MO_write_3 : decode b_MO_write 3 = .ok (.imul, 1) := by decide +kernel
theorem d_MO_write_4 : decode b_MO_write 4 = .ok (.iload_n 2, 1) := by decide +kernel
theorem d_MO_write_5 : decode b_MO_write 5 = .ok (.bipush 8, 2) := by decide +kernel
theorem d_MO_write_7 : decode b_MO_write 7 = .ok (.idiv, 1) := by decide +kernel
theorem d_MO_write_8 : decode b_MO_write 8 = .ok (.iadd, 1) := by decide +kernel
theorem d_MO_write_9 : decode b_MO_write 9 = .ok (.istore 4, 2) := by decide +kernel
theorem d_MO_write_11 : decode b_MO_write 11 = .ok (.bipush 8, 2) := by decide +kernel
theorem d_MO_write_13 : decode b_MO_write 13 = .ok (.iload_n 2, 1) := by decide +kernel
theorem d_MO_write_14 : decode b_MO_write 14 = .ok (.bipush 8, 2) := by decide +kernel
theorem d_MO_write_16 : decode b_MO_write 16 = .ok (.irem, 1) := by decide +kernel
theorem d_MO_write_17 : decode b_MO_write 17 = .ok (.imul, 1) := by decide +kernel
theorem d_MO_write_18 : decode b_MO_write 18 = .ok (.istore 5, 2) := by decide +kernel
theorem d_MO_write_20 : decode b_MO_write 20 = .ok (.aload_n 0, 1) := by decide +kernel
theorem d_MO_write_21 : decode b_MO_write 21 = .ok (.getfield 13, 3) := by decide +kernel
theorem d_MO_write_24 : decode b_MO_write 24 = .ok (.iload 4, 2) := by decide +kernel
theorem d_MO_write_26 : decode b_MO_write 26 = .ok (.aload_n 0, 1) := by decide +kernel
theorem d_MO_write_27 : decode b_MO_write 27 = .ok (.getfield 13, 3) := by decide +kernel
theorem d_MO_write_30 : decode b_MO_write 30 = .ok (.iload 4, 2) := by decide +kernel
theorem d_MO_write_32 : decode b_MO_write 32 = .ok (.laload, 1) := by decide +kernel
theorem d_MO_write_33 : decode b_MO_write 33 = .ok (.ldc2_w 51, 3) := by decide +kernel
theorem d_MO_write_36 : decode b_MO_write 36 = .ok (.iload 5, 2) := by decide +kernel
theorem d_MO_write_38 : decode b_MO_write 38 = .ok (.lshl, 1) := by decide +kernel
theorem d_MO_write_39 : decode b_MO_write 39 = .ok (.ldc2_w 56, 3) := by decide +kernel
theorem d_MO_write_42 : decode b_MO_write 42 = .ok (.lxor, 1) := by decide +kernel
theorem d_MO_write_43 : decode b_MO_write 43 = .ok (.land, 1) := by decide +kernel
theorem d_MO_write_44 : decode b_MO_write 44 = .ok (.iload_n 3, 1) := by decide +kernel
theorem d_MO_write_45 : decode b_MO_write 45 = .ok (.i2l, 1) := by decide +kernel
theorem d_MO_write_46 : decode b_MO_write 46 = .ok (.iload 5, 2) := by decide +kernel
theorem d_MO_write_48 : decode b_MO_write 48 = .ok (.lshl, 1) := by decide +kernel
theorem d_MO_write_49 : decode b_MO_write 49 = .ok (.lor, 1) := by decide +kernel
theorem d_MO_write_50 : decode b_MO_write 50 = .ok (.lastore, 1) := by decide +kernel
theorem d_MO_write_51 : decode b_MO_write 51 = .ok (.return_, 1) := by decide +kernel
theorem d_MO_read_0 : decode b_MO_read 0 = .ok (.aload_n 0, 1) := by decide +kernel
theorem d_MO_read_1 : decode b_MO_read 1 = .ok (.getfield 13, 3) := by decide +kernel
theorem d_MO_read_4 : decode b_MO_read 4 = .ok (.bipush 8, 2) := by decide +kernel
theorem d_MO_read_6 : decode b_MO_read 6 = .ok (.aload_n 0, 1) := by decide +kernel
theorem d_MO_read_7 : decode b_MO_read 7 = .ok (.getfield 17, 3) := by decide +kernel
theorem d_MO_read_10 : decode b_MO_read 10 = .ok (.sipush 400, 3) := by decide +kernel
theorem d_MO_read_13 : decode b_MO_read 13 = .ok (.iload_n 1, 1) := by decide +kernel
theorem d_MO_read_14 : decode b_MO_read 14 = .ok (.imul, 1) := by decide +kernel
theorem d_MO_read_15 : decode b_MO_read 15 = .ok (.iload_n 2, 1) := by decide +kernel
theorem d_MO_read_16 : decode b_MO_read 16 = .ok (.bipush 64, 2) := by decide +kernel
theorem d_MO_read_18 : decode b_MO_read 18 = .ok (.idiv, 1) := by decide +kernel
theorem d_MO_read_19 : decode b_MO_read 19 = .ok (.iadd, 1) := by decide +kernel
theorem d_MO_read_20 : decode b_MO_read 20 = .ok (.iaload, 1) := by decide +kernel
theorem d_MO_read_21 : decode b_MO_read 21 = .ok (.imul, 1) := by decide +kernel
theorem d_MO_read_22 : decode b_MO_read 22 = .ok (.iload_n 2, 1) := by decide +kernel
theorem d_MO_read_23 : decode b_MO_read 23 = .ok (.bipush 64, 2) := by decide +kernel
theorem d_MO_read_25 : decode b_MO_read 25 = .ok (.irem, 1) := by decide +kernel
theorem d_MO_read_26 : decode b_MO_read 26 = .ok (.bipush 8, 2) := by decide +kernel
theorem d_MO_read_28 : decode b_MO_read 28 = .ok (.idiv, 1) := by decide +kernel
theorem d_MO_read_29 : decode b_MO_read 29 = .ok (.iadd, 1) := by decide +kernel
theorem d_MO_read_30 : decode b_MO_read 30 = .ok (.laload, 1) := by decide +kernel
theorem d_MO_read_31 : decode b_MO_read 31 = .ok (.bipush 8, 2) := by decide +kernel
theorem d_MO_read_33 : decode b_MO_read 33 = .ok (.iload_n 2, 1) := by decide +kernel
theorem d_MO_read_34 : decode b_MO_read 34 = .ok (.bipush 8, 2) := by decide +kernel
theorem d_MO_read_36 : decode b_MO_read 36 = .ok (.irem, 1) := by decide +kernel
theorem d_MO_read_37 : decode b_MO_read 37 = .ok (.imul, 1) := by decide +kernel
theorem d_MO_read_38 : decode b_MO_read 38 = .ok (.lshr, 1) := by decide +kernel
theorem d_MO_read_39 : decode b_MO_read 39 = .ok (.ldc2_w 51, 3) := by decide +kernel
theorem d_MO_read_42 : decode b_MO_read 42 = .ok (.land, 1) := by decide +kernel
theorem d_MO_read_43 : decode b_MO_read 43 = .ok (.l2i, 1) := by decide +kernel
theorem d_MO_read_44 : decode b_MO_read 44 = .ok (.ireturn, 1) := by decide +kernel
theorem d_MO_become_0 : decode b_MO_become 0 = .ok (.iconst 0, 1) := by decide +kernel
theorem d_MO_become_1 : decode b_MO_become 1 = .ok (.istore_n 3, 1) := by decide +kernel
theorem d_MO_become_2 : decode b_MO_become 2 = .ok (.iload_n 3, 1) := by decide +kernel
theorem d_MO_become_3 : decode b_MO_become 3 = .ok (.sipush 400, 3) := by decide +kernel
theorem d_MO_become_6 : decode b_MO_become 6 = .ok (.if_icmp .ge 33, 3) := by decide +kernel
theorem d_MO_become_9 : decode b_MO_become 9 = .ok (.aload_n 0, 1) := by decide +kernel
theorem d_MO_become_10 : decode b_MO_become 10 = .ok (.getfield 17, 3) := by decide +kernel
theorem d_MO_become_13 : decode b_MO_become 13 = .ok (.sipush 400, 3) := by decide +kernel
theorem d_MO_become_16 : decode b_MO_become 16 = .ok (.iload_n 1, 1) := by decide +kernel
theorem d_MO_become_17 : decode b_MO_become 17 = .ok (.imul, 1) := by decide +kernel
theorem d_MO_become_18 : decode b_MO_become 18 = .ok (.iload_n 3, 1) := by decide +kernel
theorem d_MO_become_19 : decode b_MO_become 19 = .ok (.iadd, 1) := by decide +kernel
theorem d_MO_become_20 : decode b_MO_become 20 = .ok (.aload_n 0, 1) := by decide +kernel
theorem d_MO_become_21 : decode b_MO_become 21 = .ok (.getfield 17, 3) := by decide +kernel
theorem d_MO_become_24 : decode b_MO_become 24 = .ok (.sipush 400, 3) := by decide +kernel
theorem d_MO_become_27 : decode b_MO_become 27 = .ok (.iload_n 2, 1) := by decide +kernel
theorem d_MO_become_28 : decode b_MO_become 28 = .ok (.imul, 1) := by decide +kernel
theorem d_MO_become_29 : decode b_MO_become 29 = .ok (.iload_n 3, 1) := by decide +kernel
theorem d_MO_become_30 : decode b_MO_become 30 = .ok (.iadd, 1) := by decide +kernel
theorem d_MO_become_31 : decode b_MO_become 31 = .ok (.iaload, 1) := by decide +kernel
theorem d_MO_become_32 : decode b_MO_become 32 = .ok (.iastore, 1) := by decide +kernel
theorem d_MO_become_33 : decode b_MO_become 33 = .ok (.iinc 3 1, 3) := by decide +kernel
theorem d_MO_become_36 : decode b_MO_become 36 = .ok (.goto (-34), 3) := by decide +kernel
theorem d_MO_become_39 : decode b_MO_become 39 = .ok (.aload_n 0, 1) := by decide +kernel
theorem d_MO_become_40 : decode b_MO_become 40 = .ok (.getfield 20, 3) := by decide +kernel
theorem d_MO_become_43 : decode b_MO_become 43 = .ok (.iload_n 1, 1) := by decide +kernel
theorem d_MO_become_44 : decode b_MO_become 44 = .ok (.aload_n 0, 1) := by decide +kernel
theorem d_MO_become_45 : decode b_MO_become 45 = .ok (.getfield 20, 3) := by decide +kernel
theorem d_MO_become_48 : decode b_MO_become 48 = .ok (.iload_n 2, 1) := by decide +kernel
theorem d_MO_become_49 : decode b_MO_become 49 = .ok (.iaload, 1) := by decide +kernel
theorem d_MO_become_50 : decode b_MO_become 50 = .ok (.iastore, 1) := by decide +kernel
theorem d_MO_become_51 : decode b_MO_become 51 = .ok (.aload_n 0, 1) := by decide +kernel
theorem d_MO_become_52 : decode b_MO_become 52 = .ok (.getfield 23, 3) := by decide +kernel
theorem d_MO_become_55 : decode b_MO_become 55 = .ok (.iload_n 1, 1) := by decide +kernel
theorem d_MO_become_56 : decode b_MO_become 56 = .ok (.aload_n 0, 1) := by decide +kernel
theorem d_MO_become_57 : decode b_MO_become 57 = .ok (.getfield 23, 3) := by decide +kernel
theorem d_MO_become_60 : decode b_MO_become 60 = .ok (.iload_n 2, 1) := by decide +kernel
theorem d_MO_become_61 : decode b_MO_become 61 = .ok (.baload, 1) := by decide +kernel
theorem d_MO_become_62 : decode b_MO_become 62 = .ok (.bastore, 1) := by decide +kernel
theorem d_MO_become_63 : decode b_MO_become 63 = .ok (.return_, 1) := by decide +kernel
theorem d_MO_append_0 : decode b_MO_append 0 = .ok (.aload_n 0, 1) := by decide +kernel
theorem d_MO_append_1 : decode b_MO_append 1 = .ok (.iconst 0, 1) := by decide +kernel
theorem d_MO_append_2 : decode b_MO_append 2 = .ok (.putfield 37, 3) := by decide +kernel
theorem d_MO_append_5 : decode b_MO_append 5 = .ok (.iload_n 1, 1) := by decide +kernel
theorem d_MO_append_6 : decode b_MO_append 6 = .ok (.invokestatic 58, 3) := by decide +kernel
theorem d_MO_append_9 : decode b_MO_append 9 = .ok (.ifCond .ne 13, 3) := by decide +kernel
theorem d_MO_append_12 : decode b_MO_append 12 = .ok (.iload_n 2, 1) := by decide +kernel
theorem d_MO_append_13 : decode b_MO_append 13 = .ok (.iconst 1, 1) := by decide +kernel
theorem d_MO_append_14 : decode b_MO_append 14 = .ok (.bipush 16, 2) := by decide +kernel
theorem d_MO_append_16 : decode b_MO_append 16 = .ok (.invokestatic 40, 3) := by decide +kernel
theorem d_MO_append_19 : decode b_MO_append 19 = .ok (.ifCond .ne 9, 3) := by decide +kernel
theorem d_MO_append_22 : decode b_MO_append 22 = .ok (.aload_n 0, 1) := by decide +kernel
theorem d_MO_append_23 : decode b_MO_append 23 = .ok (.iconst 1, 1) := by decide +kernel
theorem d_MO_append_24 : decode b_MO_append 24 = .ok (.invokevirtual 44, 3) := by decide +kernel
theorem d_MO_append_27 : decode b_MO_append 27 = .ok (.ireturn, 1) := by decide +kernel
theorem d_MO_append_28 : decode b_MO_append 28 = .ok (.aload_n 0, 1) := by decide +kernel
theorem d_MO_append_29 : decode b_MO_append 29 = .ok (.getfield 48, 3) := by decide +kernel
theorem d_MO_append_32 : decode b_MO_append 32 = .ok (.iload_n 2, 1) := by decide +kernel
theorem d_MO_append_33 : decode b_MO_append 33 = .ok (.imul, 1) := by decide +kernel
theorem d_MO_append_34 : decode b_MO_append 34 = .ok (.istore_n 3, 1) := by decide +kernel
theorem d_MO_append_35 : decode b_MO_append 35 = .ok (.aload_n 0, 1) := by decide +kernel
theorem d_MO_append_36 : decode b_MO_append 36 = .ok (.getfield 48, 3) := by decide +kernel
theorem d_MO_append_39 : decode b_MO_append 39 = .ok (.istore 4, 2) := by decide +kernel
theorem d_MO_append_41 : decode b_MO_append 41 = .ok (.aload_n 0, 1) := by decide +kernel
theorem d_MO_append_42 : decode b_MO_append 42 = .ok (.iconst 0, 1) := by decide +kernel
theorem d_MO_append_43 : decode b_MO_append 43 = .ok (.putfield 48, 3) := by decide +kernel
theorem d_MO_append_46 : decode b_MO_append 46 = .ok (.iconst 2, 1) := by decide +kernel
theorem d_MO_append_47 : decode b_MO_append 47 = .ok (.iload_n 1, 1) := by decide +kernel
theorem d_MO_append_48 : decode b_MO_append 48 = .ok (.imul, 1) := by decide +kernel
theorem d_MO_append_49 : decode b_MO_append 49 = .ok (.istore 5, 2) := by decide +kernel
theorem d_MO_append_51 : decode b_MO_append 51 = .ok (.aload_n 0, 1) := by decide +kernel
theorem d_MO_append_52 : decode b_MO_append 52 = .ok (.getfield 33, 3) := by decide +kernel
theorem d_MO_append_55 : decode b_MO_append 55 = .ok (.aload_n 0, 1) := by decide +kernel
theorem d_MO_append_56 : decode b_MO_append 56 = .ok (.invokevirtual 62, 3) := by decide +kernel
theorem d_MO_append_59 : decode b_MO_append 59 = .ok (.isub, 1) := by decide +kernel
theorem d_MO_append_60 : decode b_MO_append 60 = .ok (.istore 6, 2) := by decide +kernel
theorem d_MO_append_62 : decode b_MO_append 62 = .ok (.aload_n 0, 1) := by decide +kernel
theorem d_MO_append_63 : decode b_MO_append 63 = .ok (.getfield 20, 3) := by decide +kernel
theorem d_MO_append_66 : decode b_MO_append 66 = .ok (.iload 5, 2) := by decide +kernel
theorem d_MO_append_68 : decode b_MO_append 68 = .ok (.iaload, 1) := by decide +kernel
theorem d_MO_append_69 : decode b_MO_append 69 = .ok (.istore 7, 2) := by decide +kernel
theorem d_MO_append_71 : decode b_MO_append 71 = .ok (.iload 7, 2) := by decide +kernel
theorem d_MO_append_73 : decode b_MO_append 73 = .ok (.bipush 64, 2) := by decide +kernel
theorem d_MO_append_75 : decode b_MO_append 75 = .ok (.idiv, 1) := by decide +kernel
theorem d_MO_append_76 : decode b_MO_append 76 = .ok (.istore 8, 2) := by decide +kernel
theorem d_MO_append_78 : decode b_MO_append 78 = .ok (.iload_n 3, 1) := by decide +kernel
theorem d_MO_append_79 : decode b_MO_append 79 = .ok (.ifCond .le 38, 3) := by decide +kernel
theorem d_MO_append_82 : decode b_MO_append 82 = .ok (.iload 7, 2) := by decide +kernel
theorem d_MO_append_84 : decode b_MO_append 84 = .ok (.bipush 64, 2) := by decide +kernel
theorem d_MO_append_86 : decode b_MO_append 86 = .ok (.irem, 1) := by decide +kernel
theorem d_MO_append_87 : decode b_MO_append 87 = .ok (.ifCond .le 30, 3) := by decide +kernel
theorem d_MO_append_90 : decode b_MO_append 90 = .ok (.aload_n 0, 1) := by decide +kernel
theorem d_MO_append_91 : decode b_MO_append 91 = .ok (.getfield 30, 3) := by decide +kernel
theorem d_MO_append_94 : decode b_MO_append 94 = .ok (.aload_n 0, 1) := by decide +kernel
theorem d_MO_append_95 : decode b_MO_append 95 = .ok (.getfield 17, 3) := by decide +kernel
theorem d_MO_append_98 : decode b_MO_append 98 = .ok (.sipush 400, 3) := by decide +kernel
theorem d_MO_append_101 : decode b_MO_append 101 = .ok (.iload 5, 2) := by decide +kernel
theorem d_MO_append_103 : decode b_MO_append 103 = .ok (.imul, 1) := by decide +kernel
theorem d_MO_append_104 : decode b_MO_append 104 = .ok (.iload 8, 2) := by decide +kernel
theorem d_MO_append_106 : decode b_MO_append 106 = .ok (.iadd, 1) := by decide +kernel
theorem d_MO_append_107 : decode b_MO_append 107 = .ok (.iaload, 1) := by decide +kernel
theorem d_MO_append_108 : decode b_MO_append 108 = .ok (.iaload, 1) := by decide +kernel
theorem d_MO_append_109 : decode b_MO_append 109 = .ok (.iconst 1, 1) := by decide +kernel
theorem d_MO_append_110 : decode b_MO_append 110 = .ok (.if_icmp .le 7, 3) := by decide +kernel
theorem d_MO_append_113 : decode b_MO_append 113 = .ok (.iconst 1, 1) := by decide +kernel
theorem d_MO_append_114 : decode b_MO_append 114 = .ok (.goto 4, 3) := by decide +kernel
theorem d_MO_append_117 : decode b_MO_append 117 = .ok (.iconst 0, 1) := by decide +kernel
theorem d_MO_append_118 : decode b_MO_append 118 = .ok (.istore 9, 2) := by decide +kernel
theorem d_MO_append_120 : decode b_MO_append 120 = .ok (.iload 7, 2) := by decide +kernel
theorem d_MO_append_122 : decode b_MO_append 122 = .ok (.iload_n 3, 1) := by decide +kernel
theorem d_MO_append_123 : decode b_MO_append 123 = .ok (.iadd, 1) := by decide +kernel
theorem d_MO_append_124 : decode b_MO_append 124 = .ok (.invokestatic 53, 3) := by decide +kernel
theorem d_MO_append_127 : decode b_MO_append 127 = .ok (.iload 7, 2) := by decide +kernel
theorem d_MO_append_129 : decode b_MO_append 129 = .ok (.invokestatic 53, 3) := by decide +kernel
theorem d_MO_append_132 : decode b_MO_append 132 = .ok (.isub, 1) := by decide +kernel
theorem d_MO_append_133 : decode b_MO_append 133 = .ok (.iload 9, 2) := by decide +kernel
theorem d_MO_append_135 : decode b_MO_append 135 = .ok (.ifCond .eq 7, 3) := by decide +kernel
theorem d_MO_append_138 : decode b_MO_append 138 = .ok (.iconst 1, 1) := by decide +kernel
theorem d_MO_append_139 : decode b_MO_append 139 = .ok (.goto 4, 3) := by decide +kernel
theorem d_MO_append_142 : decode b_MO_append 142 = .ok (.iconst 0, 1) := by decide +kernel
theorem d_MO_append_143 : decode b_MO_append 143 = .ok (.iadd, 1) := by decide +kernel
theorem d_MO_append_144 : decode b_MO_append 144 = .ok (.istore 10, 2) := by decide +kernel
theorem d_MO_append_146 : decode b_MO_append 146 = .ok (.iload 10, 2) := by decide +kernel
theorem d_MO_append_148 : decode b_MO_append 148 = .ok (.iload 6, 2) := by decide +kernel
theorem d_MO_append_150 : decode b_MO_append 150 = .ok (.if_icmp .gt 16, 3) := by decide +kernel
theorem d_MO_append_153 : decode b_MO_append 153 = .ok (.iload 7, 2) := by decide +kernel
theorem d_MO_append_155 : decode b_MO_append 155 = .ok (.iload_n 3, 1) := by decide +kernel
theorem d_MO_append_156 : decode b_MO_append 156 = .ok (.iadd, 1) := by decide +kernel
theorem d_MO_append_157 : decode b_MO_append 157 = .ok (.invokestatic 53, 3) := by decide +kernel
theorem d_MO_append_160 : decode b_MO_append 160 = .ok (.sipush 400, 3) := by decide +kernel
theorem d_MO_append_163 : decode b_MO_append 163 = .ok (.if_icmp .le 9, 3) := by decide +kernel
theorem d_MO_append_166 : decode b_MO_append 166 = .ok (.aload_n 0, 1) := by decide +kernel
theorem d_MO_append_167 : decode b_MO_append 167 = .ok (.iconst 2, 1) := by decide +kernel
theorem d_MO_append_168 : decode b_MO_append 168 = .ok (.invokevirtual 44, 3) := by decide +kernel
theorem d_MO_append_171 : decode b_MO_append 171 = .ok (.ireturn, 1) := by decide +kernel
theorem d_MO_append_172 : decode b_MO_append 172 = .ok (.aload_n 0, 1) := by decide +kernel
theorem d_MO_append_173 : decode b_MO_append 173 = .ok (.getfield 23, 3) := by decide +kernel
theorem d_MO_append_176 : decode b_MO_append 176 = .ok (.iload 5, 2) := by decide +kernel
theorem d_MO_append_178 : decode b_MO_append 178 = .ok (.iconst 1, 1) := by decide +kernel
theorem d_MO_append_179 : decode b_MO_append 179 = .ok (.bastore, 1) := by decide +kernel
theorem d_MO_append_180 : decode b_MO_append 180 = .ok (.iload 9, 2) := by decide +kernel
theorem d_MO_append_182 : decode b_MO_append 182 = .ok (.ifCond .eq 89, 3) := by decide +kernel
theorem d_MO_append_185 : decode b_MO_append 185 = .ok (.aload_n 0, 1) := by decide +kernel
theorem d_MO_append_186 : decode b_MO_append 186 = .ok (.invokevirtual 66, 3) := by decide +kernel
theorem d_MO_append_189 : decode b_MO_append 189 = .ok (.istore 11, 2) := by decide +kernel
theorem d_MO_append_191 : decode b_MO_append 191 = .ok (.iconst 0, 1) := by decide +kernel
theorem d_MO_append_192 : decode b_MO_append 192 = .ok (.istore 12, 2) := by decide +kernel
theorem d_MO_append_194 : decode b_MO_append 194 = .ok (.iload 12, 2) := by decide +kernel
theorem d_MO_append_196 : decode b_MO_append 196 = .ok (.bipush 8, 2) := by decide +kernel
theorem d_MO_append_198 : decode b_MO_append 198 = .ok (.if_icmp .ge 47, 3) := by decide +kernel
theorem d_MO_append_201 : decode b_MO_append 201 = .ok (.aload_n 0, 1) := by decide +kernel
theorem d_MO_append_202 : decode b_MO_append 202 = .ok (.getfield 13, 3) := by decide +kernel
theorem d_MO_append_205 : decode b_MO_append 205 = .ok (.bipush 8, 2) := by decide +kernel
theorem d_MO_append_207 : decode b_MO_append 207 = .ok (.iload 11, 2) := by decide +kernel
theorem d_MO_append_209 : decode b_MO_append 209 = .ok (.imul, 1) := by decide +kernel
theorem d_MO_append_210 : decode b_MO_append 210 = .ok (.iload 12, 2) := by decide +kernel
theorem d_MO_append_212 : decode b_MO_append 212 = .ok (.iadd, 1) := by decide +kernel
theorem d_MO_append_213 : decode b_MO_append 213 = .ok (.aload_n 0, 1) := by decide +kernel
theorem d_MO_append_214 : decode b_MO_append 214 = .ok (.getfield 13, 3) := by decide +kernel
theorem d_MO_append_217 : decode b_MO_append 217 = .ok (.bipush 8, 2) := by decide +kernel
theorem d_MO_append_219 : decode b_MO_append 219 = .ok (.aload_n 0, 1) := by decide +kernel
theorem d_MO_append_220 : decode b_MO_append 220 = .ok (.getfield 17, 3) := by decide +kernel
theorem d_MO_append_223 : decode b_MO_append 223 = .ok (.sipush 400, 3) := by decide +kernel
theorem d_MO_append_226 : decode b_MO_append 226 = .ok (.iload 5, 2) := by decide +kernel
theorem d_MO_append_228 : decode b_MO_append 228 = .ok (.imul, 1) := by decide +kernel
theorem d_MO_append_229 : decode b_MO_append 229 = .ok (.iload 8, 2) := by decide +kernel
theorem d_MO_append_231 : decode b_MO_append 231 = .ok (.iadd, 1) := by decide +kernel
theorem d_MO_append_232 : decode b_MO_append 232 = .ok (.iaload, 1) := by decide +kernel
theorem d_MO_append_233 : decode b_MO_append 233 = .ok (.imul, 1) := by decide +kernel
theorem d_MO_append_234 : decode b_MO_append 234 = .ok (.iload 12, 2) := by decide +kernel
theorem d_MO_append_236 : decode b_MO_append 236 = .ok (.iadd, 1) := by decide +kernel
theorem d_MO_append_237 : decode b_MO_append 237 = .ok (.laload, 1) := by decide +kernel
theorem d_MO_append_238 : decode b_MO_append 238 = .ok (.lastore, 1) := by decide +kernel
theorem d_MO_append_239 : decode b_MO_append 239 = .ok (.iinc 12 1, 3) := by decide +kernel
theorem d_MO_append_242 : decode b_MO_append 242 = .ok (.goto (-48), 3) := by decide +kernel
theorem d_MO_append_245 : decode b_MO_append 245 = .ok (.aload_n 0, 1) := by decide +kernel
theorem d_MO_append_246 : decode b_MO_append 246 = .ok (.getfield 17, 3) := by decide +kernel
theorem d_MO_append_249 : decode b_MO_append 249 = .ok (.sipush 400, 3) := by decide +kernel
theorem d_MO_append_252 : decode b_MO_append 252 = .ok (.iload 5, 2) := by decide +kernel
theorem d_MO_append_254 : decode b_MO_append 254 = .ok (.imul, 1) := by decide +kernel
theorem d_MO_append_255 : decode b_MO_append 255 = .ok (.iload 8, 2) := by decide +kernel
theorem d_MO_append_257 : decode b_MO_append 257 = .ok (.iadd, 1) := by decide +kernel
theorem d_MO_append_258 : decode b_MO_append 258 = .ok (.iload 11, 2) := by decide +kernel
theorem d_MO_append_260 : decode b_MO_append 260 = .ok (.iastore, 1) := by decide +kernel
theorem d_MO_append_261 : decode b_MO_append 261 = .ok (.aload_n 0, 1) := by decide +kernel
theorem d_MO_append_262 : decode b_MO_append 262 = .ok (.dup, 1) := by decide +kernel
theorem d_MO_append_263 : decode b_MO_append 263 = .ok (.getfield 69, 3) := by decide +kernel
theorem d_MO_append_266 : decode b_MO_append 266 = .ok (.iconst 1, 1) := by decide +kernel
theorem d_MO_append_267 : decode b_MO_append 267 = .ok (.iadd, 1) := by decide +kernel
theorem d_MO_append_268 : decode b_MO_append 268 = .ok (.putfield 69, 3) := by decide +kernel
theorem d_MO_append_271 : decode b_MO_append 271 = .ok (.iconst 0, 1) := by decide +kernel
theorem d_MO_append_272 : decode b_MO_append 272 = .ok (.istore 11, 2) := by decide +kernel
theorem d_MO_append_274 : decode b_MO_append 274 = .ok (.iload 11, 2) := by decide +kernel
theorem d_MO_append_276 : decode b_MO_append 276 = .ok (.iload_n 3, 1) := by decide +kernel
theorem d_MO_append_277 : decode b_MO_append 277 = .ok (.if_icmp .ge 81, 3) := by decide +kernel
theorem d_MO_append_280 : decode b_MO_append 280 = .ok (.iload 7, 2) := by decide +kernel
theorem d_MO_append_282 : decode b_MO_append 282 = .ok (.iload 11, 2) := by decide +kernel
theorem d_MO_append_284 : decode b_MO_append 284 = .ok (.iadd, 1) := by decide +kernel
theorem d_MO_append_285 : decode b_MO_append 285 = .ok (.istore 12, 2) := by decide +kernel
theorem d_MO_append_287 : decode b_MO_append 287 = .ok (.iload 12, 2) := by decide +kernel
theorem d_MO_append_289 : decode b_MO_append 289 = .ok (.bipush 64, 2) := by decide +kernel
theorem d_MO_append_291 : decode b_MO_append 291 = .ok (.irem, 1) := by decide +kernel
theorem d_MO_append_292 : decode b_MO_append 292 = .ok (.ifCond .ne 24, 3) := by decide +kernel
theorem d_MO_append_295 : decode b_MO_append 295 = .ok (.aload_n 0, 1) := by decide +kernel
theorem d_MO_append_296 : decode b_MO_append 296 = .ok (.getfield 17, 3) := by decide +kernel
theorem d_MO_append_299 : decode b_MO_append 299 = .ok (.sipush 400, 3) := by decide +kernel
theorem d_MO_append_302 : decode b_MO_append 302 = .ok (.iload 5, 2) := by decide +kernel
theorem d_MO_append_304 : decode b_MO_append 304 = .ok (.imul, 1) := by decide +kernel
theorem d_MO_append_305 : decode b_MO_append 305 = .ok (.iload 12, 2) := by decide +kernel
theorem d_MO_append_307 : decode b_MO_append 307 = .ok (.bipush 64, 2) := by decide +kernel
theorem d_MO_append_309 : decode b_MO_append 309 = .ok (.idiv, 1) := by decide +kernel
theorem d_MO_append_310 : decode b_MO_append 310 = .ok (.iadd, 1) := by decide +kernel
theorem d_MO_append_311 : decode b_MO_append 311 = .ok (.aload_n 0, 1) := by decide +kernel
theorem d_MO_append_312 : decode b_MO_append 312 = .ok (.invokevirtual 66, 3) := by decide +kernel
theorem d_MO_append_315 : decode b_MO_append 315 = .ok (.iastore, 1) := by decide +kernel
theorem d_MO_append_316 : decode b_MO_append 316 = .ok (.aload_n 0, 1) := by decide +kernel
theorem d_MO_append_317 : decode b_MO_append 317 = .ok (.aload_n 0, 1) := by decide +kernel
theorem d_MO_append_318 : decode b_MO_append 318 = .ok (.getfield 17, 3) := by decide +kernel
theorem d_MO_append_321 : decode b_MO_append 321 = .ok (.sipush 400, 3) := by decide +kernel
theorem d_MO_append_324 : decode b_MO_append 324 = .ok (.iload 5, 2) := by decide +kernel
theorem d_MO_append_326 : decode b_MO_append 326 = .ok (.imul, 1) := by decide +kernel
theorem d_MO_append_327 : decode b_MO_append 327 = .ok (.iload 12, 2) := by decide +kernel
theorem d_MO_append_329 : decode b_MO_append 329 = .ok (.bipush 64, 2) := by decide +kernel
theorem d_MO_append_331 : decode b_MO_append 331 = .ok (.idiv, 1) := by decide +kernel
theorem d_MO_append_332 : decode b_MO_append 332 = .ok (.iadd, 1) := by decide +kernel
theorem d_MO_append_333 : decode b_MO_append 333 = .ok (.iaload, 1) := by decide +kernel
theorem d_MO_append_334 : decode b_MO_append 334 = .ok (.iload 12, 2) := by decide +kernel
theorem d_MO_append_336 : decode b_MO_append 336 = .ok (.bipush 64, 2) := by decide +kernel
theorem d_MO_append_338 : decode b_MO_append 338 = .ok (.irem, 1) := by decide +kernel
theorem d_MO_append_339 : decode b_MO_append 339 = .ok (.aload_n 0, 1) := by decide +kernel
theorem d_MO_append_340 : decode b_MO_append 340 = .ok (.getfield 7, 3) := by decide +kernel
theorem d_MO_append_343 : decode b_MO_append 343 = .ok (.iload 11, 2) := by decide +kernel
theorem d_MO_append_345 : decode b_MO_append 345 = .ok (.iload 4, 2) := by decide +kernel
theorem d_MO_append_347 : decode b_MO_append 347 = .ok (.irem, 1) := by decide +kernel
theorem d_MO_append_348 : decode b_MO_append 348 = .ok (.iaload, 1) := by decide +kernel
theorem d_MO_append_349 : decode b_MO_append 349 = .ok (.invokevirtual 72, 3) := by decide +kernel
theorem d_MO_append_352 : decode b_MO_append 352 = .ok (.iinc 11 1, 3) := by decide +kernel
theorem d_MO_append_355 : decode b_MO_append 355 = .ok (.goto (-81), 3) := by decide +kernel
theorem d_MO_append_358 : decode b_MO_append 358 = .ok (.aload_n 0, 1) := by decide +kernel
theorem d_MO_append_359 : decode b_MO_append 359 = .ok (.getfield 20, 3) := by decide +kernel
theorem d_MO_append_362 : decode b_MO_append 362 = .ok (.iload 5, 2) := by decide +kernel
theorem d_MO_append_364 : decode b_MO_append 364 = .ok (.iload 7, 2) := by decide +kernel
theorem d_MO_append_366 : decode b_MO_append 366 = .ok (.iload_n 3, 1) := by decide +kernel
theorem d_MO_append_367 : decode b_MO_append 367 = .ok (.iadd, 1) := by decide +kernel
theorem d_MO_append_368 : decode b_MO_append 368 = .ok (.iastore, 1) := by decide +kernel
theorem d_MO_append_369 : decode b_MO_append 369 = .ok (.aload_n 0, 1) := by decide +kernel
theorem d_MO_append_370 : decode b_MO_append 370 = .ok (.getfield 20, 3) := by decide +kernel
theorem d_MO_append_373 : decode b_MO_append 373 = .ok (.iload 5, 2) := by decide +kernel
theorem d_MO_append_375 : decode b_MO_append 375 = .ok (.iaload, 1) := by decide +kernel
theorem d_MO_append_376 : decode b_MO_append 376 = .ok (.ireturn, 1) := by decide +kernel
theorem d_MO_shorten_0 : decode b_MO_shorten 0 = .ok (.aload_n 0, 1) := by decide +kernel
theorem d_MO_shorten_1 : decode b_MO_shorten 1 = .ok (.getfield 20, 3) := by decide +kernel
theorem d_MO_shorten_4 : decode b_MO_shorten 4 = .ok (.iconst 2, 1) := by decide +kernel
theorem d_MO_shorten_5 : decode b_MO_shorten 5 = .ok (.iload_n 1, 1) := by decide +kernel
theorem d_MO_shorten_6 : decode b_MO_shorten 6 = .ok (.imul, 1) := by decide +kernel
theorem d_MO_shorten_7 : decode b_MO_shorten 7 = .ok (.iload_n 2, 1) := by decide +kernel
theorem d_MO_shorten_8 : decode b_MO_shorten 8 = .ok (.iastore, 1) := by decide +kernel
theorem d_MO_shorten_9 : decode b_MO_shorten 9 = .ok (.aload_n 0, 1) := by decide +kernel
theorem d_MO_shorten_10 : decode b_MO_shorten 10 = .ok (.getfield 27, 3) := by decide +kernel
theorem d_MO_shorten_13 : decode b_MO_shorten 13 = .ok (.iload_n 1, 1) := by decide +kernel
theorem d_MO_shorten_14 : decode b_MO_shorten 14 = .ok (.aload_n 0, 1) := by decide +kernel
theorem d_MO_shorten_15 : decode b_MO_shorten 15 = .ok (.getfield 27, 3) := by decide +kernel
theorem d_MO_shorten_18 : decode b_MO_shorten 18 = .ok (.iload_n 1, 1) := by decide +kernel
theorem d_MO_shorten_19 : decode b_MO_shorten 19 = .ok (.iaload, 1) := by decide +kernel
theorem d_MO_shorten_20 : decode b_MO_shorten 20 = .ok (.iload_n 2, 1) := by decide +kernel
theorem d_MO_shorten_21 : decode b_MO_shorten 21 = .ok (.if_icmp .le 7, 3) := by decide +kernel
theorem d_MO_shorten_24 : decode b_MO_shorten 24 = .ok (.iload_n 2, 1) := by decide +kernel
theorem d_MO_shorten_25 : decode b_MO_shorten 25 = .ok (.goto 9, 3) := by decide +kernel
theorem d_MO_shorten_28 : decode b_MO_shorten 28 = .ok (.aload_n 0, 1) := by decide +kernel
theorem d_MO_shorten_29 : decode b_MO_shorten 29 = .ok (.getfield 27, 3) := by decide +kernel
theorem d_MO_shorten_32 : decode b_MO_shorten 32 = .ok (.iload_n 1, 1) := by decide +kernel
theorem d_MO_shorten_33 : decode b_MO_shorten 33 = .ok (.iaload, 1) := by decide +kernel
theorem d_MO_shorten_34 : decode b_MO_shorten 34 = .ok (.iastore, 1) := by decide +kernel
theorem d_MO_shorten_35 : decode b_MO_shorten 35 = .ok (.return_, 1) := by decide +kernel
theorem d_MO_cut_0 : decode b_MO_cut 0 = .ok (.aload_n 0, 1) := by decide +kernel
theorem d_MO_cut_1 : decode b_MO_cut 1 = .ok (.iconst 0, 1) := by decide +kernel
theorem d_MO_cut_2 : decode b_MO_cut 2 = .ok (.putfield 37, 3) := by decide +kernel
theorem d_MO_cut_5 : decode b_MO_cut 5 = .ok (.iload_n 1, 1) := by decide +kernel
theorem d_MO_cut_6 : decode b_MO_cut 6 = .ok (.invokestatic 58, 3) := by decide +kernel
theorem d_MO_cut_9 : decode b_MO_cut 9 = .ok (.ifCond .eq 9, 3) := by decide +kernel
theorem d_MO_cut_12 : decode b_MO_cut 12 = .ok (.aload_n 0, 1) := by decide +kernel
theorem d_MO_cut_13 : decode b_MO_cut 13 = .ok (.iconst 1, 1) := by decide +kernel
theorem d_MO_cut_14 : decode b_MO_cut 14 = .ok (.invokevirtual 44, 3) := by decide +kernel
theorem d_MO_cut_17 : decode b_MO_cut 17 = .ok (.ireturn, 1) := by decide +kernel
theorem d_MO_cut_18 : decode b_MO_cut 18 = .ok (.aload_n 0, 1) := by decide +kernel
theorem d_MO_cut_19 : decode b_MO_cut 19 = .ok (.getfield 23, 3) := by decide +kernel
theorem d_MO_cut_22 : decode b_MO_cut 22 = .ok (.iconst 2, 1) := by decide +kernel
theorem d_MO_cut_23 : decode b_MO_cut 23 = .ok (.iload_n 1, 1) := by decide +kernel
theorem d_MO_cut_24 : decode b_MO_cut 24 = .ok (.imul, 1) := by decide +kernel
theorem d_MO_cut_25 : decode b_MO_cut 25 = .ok (.baload, 1) := by decide +kernel
theorem d_MO_cut_26 : decode b_MO_cut 26 = .ok (.ifCond .ne 9, 3) := by decide +kernel
theorem d_MO_cut_29 : decode b_MO_cut 29 = .ok (.aload_n 0, 1) := by decide +kernel
theorem d_MO_cut_30 : decode b_MO_cut 30 = .ok (.iconst 2, 1) := by decide +kernel
theorem d_MO_cut_31 : decode b_MO_cut 31 = .ok (.invokevirtual 44, 3) := by decide +kernel
theorem d_MO_cut_34 : decode b_MO_cut 34 = .ok (.ireturn, 1) := by decide +kernel
theorem d_MO_cut_35 : decode b_MO_cut 35 = .ok (.aload_n 0, 1) := by decide +kernel
theorem d_MO_cut_36 : decode b_MO_cut 36 = .ok (.getfield 20, 3) := by decide +kernel
theorem d_MO_cut_39 : decode b_MO_cut 39 = .ok (.iconst 2, 1) := by decide +kernel
theorem d_MO_cut_40 : decode b_MO_cut 40 = .ok (.iload_n 1, 1) := by decide +kernel
theorem d_MO_cut_41 : decode b_MO_cut 41 = .ok (.imul, 1) := by decide +kernel
theorem d_MO_cut_42 : decode b_MO_cut 42 = .ok (.iaload, 1) := by decide +kernel
theorem d_MO_cut_43 : decode b_MO_cut 43 = .ok (.istore_n 3, 1) := by decide +kernel
theorem d_MO_cut_44 : decode b_MO_cut 44 = .ok (.iload_n 2, 1) := by decide +kernel
theorem d_MO_cut_45 : decode b_MO_cut 45 = .ok (.iconst 0, 1) := by decide +kernel
theorem d_MO_cut_46 : decode b_MO_cut 46 = .ok (.iload_n 3, 1) := by decide +kernel
theorem d_MO_cut_47 : decode b_MO_cut 47 = .ok (.invokestatic 40, 3) := by decide +kernel
theorem d_MO_cut_50 : decode b_MO_cut 50 = .ok (.ifCond .ne 9, 3) := by decide +kernel
theorem d_MO_cut_53 : decode b_MO_cut 53 = .ok (.aload_n 0, 1) := by decide +kernel
theorem d_MO_cut_54 : decode b_MO_cut 54 = .ok (.iconst 3, 1) := by decide +kernel
theorem d_MO_cut_55 : decode b_MO_cut 55 = .ok (.invokevirtual 44, 3) := by decide +kernel
theorem d_MO_cut_58 : decode b_MO_cut 58 = .ok (.ireturn, 1) := by decide +kernel
theorem d_MO_cut_59 : decode b_MO_cut 59 = .ok (.aload_n 0, 1) := by decide +kernel
theorem d_MO_cut_60 : decode b_MO_cut 60 = .ok (.iload_n 1, 1) := by decide +kernel
theorem d_MO_cut_61 : decode b_MO_cut 61 = .ok (.iload_n 2, 1) := by decide +kernel
theorem d_MO_cut_62 : decode b_MO_cut 62 = .ok (.invokevirtual 76, 3) := by decide +kernel
theorem d_MO_cut_65 : decode b_MO_cut 65 = .ok (.iload_n 3, 1) := by decide +kernel
theorem d_MO_cut_66 : decode b_MO_cut 66 = .ok (.ireturn, 1) := by decide +kernel
theorem d_MO_remove_0 : decode b_MO_remove 0 = .ok (.aload_n 0, 1) := by decide +kernel
theorem d_MO_remove_1 : decode b_MO_remove 1 = .ok (.iconst 0, 1) := by decide +kernel
theorem d_MO_remove_2 : decode b_MO_remove 2 = .ok (.putfield 37, 3) := by decide +kernel
theorem d_MO_remove_5 : decode b_MO_remove 5 = .ok (.iload_n 1, 1) := by decide +kernel
theorem d_MO_remove_6 : decode b_MO_remove 6 = .ok (.invokestatic 58, 3) := by decide +kernel
theorem d_MO_remove_9 : decode b_MO_remove 9 = .ok (.ifCond .eq 17, 3) := by decide +kernel
theorem d_MO_remove_12 : decode b_MO_remove 12 = .ok (.aload_n 0, 1) := by decide +kernel
theorem d_MO_remove_13 : decode b_MO_remove 13 = .ok (.iconst 1, 1) := by decide +kernel
theorem d_MO_remove_14 : decode b_MO_remove 14 = .ok (.invokevirtual 44, 3) := by decide +kernel
theorem d_MO_remove_17 : decode b_MO_remove 17 = .ok (.ifCond .le 7, 3) := by decide +kernel
theorem d_MO_remove_20 : decode b_MO_remove 20 = .ok (.iconst 1, 1) := by decide +kernel
theorem d_MO_remove_21 : decode b_MO_remove 21 = .ok (.goto 4, 3) := by decide +kernel
theorem d_MO_remove_24 : decode b_MO_remove 24 = .ok (.iconst 0, 1) := by decide +kernel
theorem d_MO_remove_25 : decode b_MO_remove 25 = .ok (.ireturn, 1) := by decide +kernel
theorem d_MO_remove_26 : decode b_MO_remove 26 = .ok (.aload_n 0, 1) := by decide +kernel
theorem d_MO_remove_27 : decode b_MO_remove 27 = .ok (.getfield 23, 3) := by decide +kernel
theorem d_MO_remove_30 : decode b_MO_remove 30 = .ok (.iconst 2, 1) := by decide +kernel
theorem d_MO_remove_31 : decode b_MO_remove 31 = .ok (.iload_n 1, 1) := by decide +kernel
theorem d_MO_remove_32 : decode b_MO_remove 32 = .ok (.imul, 1) := by decide +kernel
theorem d_MO_remove_33 : decode b_MO_remove 33 = .ok (.baload, 1) := by decide +kernel
theorem d_MO_remove_34 : decode b_MO_remove 34 = .ok (.istore_n 2, 1) := by decide +kernel
theorem d_MO_remove_35 : decode b_MO_remove 35 = .ok (.aload_n 0, 1) := by decide +kernel
theorem d_MO_remove_36 : decode b_MO_remove 36 = .ok (.iload_n 1, 1) := by decide +kernel
theorem d_MO_remove_37 : decode b_MO_remove 37 = .ok (.iconst 0, 1) := by decide +kernel
theorem d_MO_remove_38 : decode b_MO_remove 38 = .ok (.invokevirtual 76, 3) := by decide +kernel
theorem d_MO_remove_41 : decode b_MO_remove 41 = .ok (.aload_n 0, 1) := by decide +kernel
theorem d_MO_remove_42 : decode b_MO_remove 42 = .ok (.getfield 23, 3) := by decide +kernel
theorem d_MO_remove_45 : decode b_MO_remove 45 = .ok (.iconst 2, 1) := by decide +kernel
theorem d_MO_remove_46 : decode b_MO_remove 46 = .ok (.iload_n 1, 1) := by decide +kernel
theorem d_MO_remove_47 : decode b_MO_remove 47 = .ok (.imul, 1) := by decide +kernel
theorem d_MO_remove_48 : decode b_MO_remove 48 = .ok (.iconst 0, 1) := by decide +kernel
theorem d_MO_remove_49 : decode b_MO_remove 49 = .ok (.bastore, 1) := by decide +kernel
theorem d_MO_remove_50 : decode b_MO_remove 50 = .ok (.iload_n 2, 1) := by decide +kernel
theorem d_MO_remove_51 : decode b_MO_remove 51 = .ok (.ireturn, 1) := by decide +kernel
theorem d_MO_twin_0 : decode b_MO_twin 0 = .ok (.aload_n 0, 1) := by decide +kernel
theorem d_MO_twin_1 : decode b_MO_twin 1 = .ok (.iconst 0, 1) := by decide +kernel
theorem d_MO_twin_2 : decode b_MO_twin 2 = .ok (.putfield 37, 3) := by decide +kernel
theorem d_MO_twin_5 : decode b_MO_twin 5 = .ok (.iload_n 1, 1) := by decide +kernel
theorem d_MO_twin_6 : decode b_MO_twin 6 = .ok (.invokestatic 58, 3) := by decide +kernel
theorem d_MO_twin_9 : decode b_MO_twin 9 = .ok (.ifCond .ne 10, 3) := by decide +kernel
theorem d_MO_twin_12 : decode b_MO_twin 12 = .ok (.iload_n 2, 1) := by decide +kernel
theorem d_MO_twin_13 : decode b_MO_twin 13 = .ok (.invokestatic 58, 3) := by decide +kernel
theorem d_MO_twin_16 : decode b_MO_twin 16 = .ok (.ifCond .eq 9, 3) := by decide +kernel
theorem d_MO_twin_19 : decode b_MO_twin 19 = .ok (.aload_n 0, 1) := by decide +kernel
theorem d_MO_twin_20 : decode b_MO_twin 20 = .ok (.iconst 1, 1) := by decide +kernel
theorem d_MO_twin_21 : decode b_MO_twin 21 = .ok (.invokevirtual 44, 3) := by decide +kernel
theorem d_MO_twin_24 : decode b_MO_twin 24 = .ok (.ireturn, 1) := by decide +kernel
theorem d_MO_twin_25 : decode b_MO_twin 25 = .ok (.aload_n 0, 1) := by decide +kernel
theorem d_MO_twin_26 : decode b_MO_twin 26 = .ok (.getfield 23, 3) := by decide +kernel
theorem d_MO_twin_29 : decode b_MO_twin 29 = .ok (.iconst 2, 1) := by decide +kernel
theorem d_MO_twin_30 : decode b_MO_twin 30 = .ok (.iload_n 1, 1) := by decide +kernel
theorem d_MO_twin_31 : decode b_MO_twin 31 = .ok (.imul, 1) := by decide +kernel
theorem d_MO_twin_32 : decode b_MO_twin 32 = .ok (.baload, 1) := by decide +kernel
theorem d_MO_twin_33 : decode b_MO_twin 33 = .ok (.ifCond .ne 9, 3) := by decide +kernel
theorem d_MO_twin_36 : decode b_MO_twin 36 = .ok (.aload_n 0, 1) := by decide +kernel
theorem d_MO_twin_37 : decode b_MO_twin 37 = .ok (.iconst 2, 1) := by decide +kernel
theorem d_MO_twin_38 : decode b_MO_twin 38 = .ok (.invokevirtual 44, 3) := by decide +kernel
theorem d_MO_twin_41 : decode b_MO_twin 41 = .ok (.ireturn, 1) := by decide +kernel
theorem d_MO_twin_42 : decode b_MO_twin 42 = .ok (.iload_n 1, 1) := by decide +kernel
theorem d_MO_twin_43 : decode b_MO_twin 43 = .ok (.iload_n 2, 1) := by decide +kernel
theorem d_MO_twin_44 : decode b_MO_twin 44 = .ok (.if_icmp .eq 13, 3) := by decide +kernel
theorem d_MO_twin_47 : decode b_MO_twin 47 = .ok (.aload_n 0, 1) := by decide +kernel
theorem d_MO_twin_48 : decode b_MO_twin 48 = .ok (.iconst 2, 1) := by decide +kernel
theorem d_MO_twin_49 : decode b_MO_twin 49 = .ok (.iload_n 2, 1) := by decide +kernel
theorem d_MO_twin_50 : decode b_MO_twin 50 = .ok (.imul, 1) := by decide +kernel
theorem d_MO_twin_51 : decode b_MO_twin 51 = .ok (.iconst 2, 1) := by decide +kernel
theorem d_MO_twin_52 : decode b_MO_twin 52 = .ok (.iload_n 1, 1) := by decide +kernel
theorem d_MO_twin_53 : decode b_MO_twin 53 = .ok (.imul, 1) := by decide +kernel
theorem d_MO_twin_54 : decode b_MO_twin 54 = .ok (.invokevirtual 80, 3) := by decide +kernel
theorem d_MO_twin_57 : decode b_MO_twin 57 = .ok (.aload_n 0, 1) := by decide +kernel
theorem d_MO_twin_58 : decode b_MO_twin 58 = .ok (.getfield 27, 3) := by decide +kernel
theorem d_MO_twin_61 : decode b_MO_twin 61 = .ok (.iload_n 2, 1) := by decide +kernel
theorem d_MO_twin_62 : decode b_MO_twin 62 = .ok (.iconst 0, 1) := by decide +kernel
theorem d_MO_twin_63 : decode b_MO_twin 63 = .ok (.iastore, 1) := by decide +kernel
theorem d_MO_twin_64 : decode b_MO_twin 64 = .ok (.aload_n 0, 1) := by decide +kernel
theorem d_MO_twin_65 : decode b_MO_twin 65 = .ok (.getfield 20, 3) := by decide +kernel
theorem d_MO_twin_68 : decode b_MO_twin 68 = .ok (.iconst 2, 1) := by decide +kernel
theorem d_MO_twin_69 : decode b_MO_twin 69 = .ok (.iload_n 2, 1) := by decide +kernel
theorem d_MO_twin_70 : decode b_MO_twin 70 = .ok (.imul, 1) := by decide +kernel
theorem d_MO_twin_71 : decode b_MO_twin 71 = .ok (.iaload, 1) := by decide +kernel
theorem d_MO_twin_72 : decode b_MO_twin 72 = .ok (.ireturn, 1) := by decide +kernel
theorem d_MO_isIn_0 : decode b_MO_isIn 0 = .ok (.iconst 0, 1) := by decide +kernel
theorem d_MO_isIn_1 : decode b_MO_isIn 1 = .ok (.istore_n 3, 1) := by decide +kernel
theorem d_MO_isIn_2 : decode b_MO_isIn 2 = .ok (.iconst 0, 1) := by decide +kernel
theorem d_MO_isIn_3 : decode b_MO_isIn 3 = .ok (.istore 4, 2) := by decide +kernel
theorem d_MO_isIn_5 : decode b_MO_isIn 5 = .ok (.iload 4, 2) := by decide +kernel
theorem d_MO_isIn_7 : decode b_MO_isIn 7 = .ok (.aload_n 0, 1) := by decide +kernel
theorem d_MO_isIn_8 : decode b_MO_isIn 8 = .ok (.getfield 20, 3) := by decide +kernel
theorem d_MO_isIn_11 : decode b_MO_isIn 11 = .ok (.iload_n 1, 1) := by decide +kernel
theorem d_MO_isIn_12 : decode b_MO_isIn 12 = .ok (.iaload, 1) := by decide +kernel
theorem d_MO_isIn_13 : decode b_MO_isIn 13 = .ok (.invokestatic 53, 3) := by decide +kernel
theorem d_MO_isIn_16 : decode b_MO_isIn 16 = .ok (.if_icmp .ge 36, 3) := by decide +kernel
theorem d_MO_isIn_19 : decode b_MO_isIn 19 = .ok (.iload_n 3, 1) := by decide +kernel
theorem d_MO_isIn_20 : decode b_MO_isIn 20 = .ok (.ifCond .ne 20, 3) := by decide +kernel
theorem d_MO_isIn_23 : decode b_MO_isIn 23 = .ok (.aload_n 0, 1) := by decide +kernel
theorem d_MO_isIn_24 : decode b_MO_isIn 24 = .ok (.getfield 17, 3) := by decide +kernel
theorem d_MO_isIn_27 : decode b_MO_isIn 27 = .ok (.sipush 400, 3) := by decide +kernel
theorem d_MO_isIn_30 : decode b_MO_isIn 30 = .ok (.iload_n 1, 1) := by decide +kernel
theorem d_MO_isIn_31 : decode b_MO_isIn 31 = .ok (.imul, 1) := by decide +kernel
theorem d_MO_isIn_32 : decode b_MO_isIn 32 = .ok (.iload 4, 2) := by decide +kernel
theorem d_MO_isIn_34 : decode b_MO_isIn 34 = .ok (.iadd, 1) := by decide +kernel
theorem d_MO_isIn_35 : decode b_MO_isIn 35 = .ok (.iaload, 1) := by decide +kernel
theorem d_MO_isIn_36 : decode b_MO_isIn 36 = .ok (.iload_n 2, 1) := by decide +kernel
theorem d_MO_isIn_37 : decode b_MO_isIn 37 = .ok (.if_icmp .ne 7, 3) := by decide +kernel
theorem d_MO_isIn_40 : decode b_MO_isIn 40 = .ok (.iconst 1, 1) := by decide +kernel
theorem d_MO_isIn_41 : decode b_MO_isIn 41 = .ok (.goto 4, 3) := by decide +kernel
theorem d_MO_isIn_44 : decode b_MO_isIn 44 = .ok (.iconst 0, 1) := by decide +kernel
theorem d_MO_isIn_45 : decode b_MO_isIn 45 = .ok (.istore_n 3, 1) := by decide +kernel
theorem d_MO_isIn_46 : decode b_MO_isIn 46 = .ok (.iinc 4 1, 3) := by decide +kernel
theorem d_MO_isIn_49 : decode b_MO_isIn 49 = .ok (.goto (-44), 3) := by decide +kernel
theorem d_MO_isIn_52 : decode b_MO_isIn 52 = .ok (.iload_n 3, 1) := by decide +kernel
theorem d_MO_isIn_53 : decode b_MO_isIn 53 = .ok (.ireturn, 1) := by decide +kernel
theorem d_MO_settle_0 : decode b_MO_settle 0 = .ok (.aload_n 0, 1) := by decide +kernel
theorem d_MO_settle_1 : decode b_MO_settle 1 = .ok (.iconst 2, 1) := by decide +kernel
theorem d_MO_settle_2 : decode b_MO_settle 2 = .ok (.iload_n 1, 1) := by decide +kernel
theorem d_MO_settle_3 : decode b_MO_settle 3 = .ok (.imul, 1) := by decide +kernel
theorem d_MO_settle_4 : decode b_MO_settle 4 = .ok (.iconst 1, 1) := by decide +kernel
theorem d_MO_settle_5 : decode b_MO_settle 5 = .ok (.iadd, 1) := by decide +kernel
theorem d_MO_settle_6 : decode b_MO_settle 6 = .ok (.iconst 2, 1) := by decide +kernel
theorem d_MO_settle_7 : decode b_MO_settle 7 = .ok (.iload_n 1, 1) := by decide +kernel
theorem d_MO_settle_8 : decode b_MO_settle 8 = .ok (.imul, 1) := by decide +kernel
theorem d_MO_settle_9 : decode b_MO_settle 9 = .ok (.invokevirtual 80, 3) := by decide +kernel
theorem d_MO_settle_12 : decode b_MO_settle 12 = .ok (.aload_n 0, 1) := by decide +kernel
theorem d_MO_settle_13 : decode b_MO_settle 13 = .ok (.getfield 27, 3) := by decide +kernel
theorem d_MO_settle_16 : decode b_MO_settle 16 = .ok (.iload_n 1, 1) := by decide +kernel
theorem d_MO_settle_17 : decode b_MO_settle 17 = .ok (.aload_n 0, 1) := by decide +kernel
theorem d_MO_settle_18 : decode b_MO_settle 18 = .ok (.getfield 20, 3) := by decide +kernel
theorem d_MO_settle_21 : decode b_MO_settle 21 = .ok (.iconst 2, 1) := by decide +kernel
theorem d_MO_settle_22 : decode b_MO_settle 22 = .ok (.iload_n 1, 1) := by decide +kernel
theorem d_MO_settle_23 : decode b_MO_settle 23 = .ok (.imul, 1) := by decide +kernel
theorem d_MO_settle_24 : decode b_MO_settle 24 = .ok (.iaload, 1) := by decide +kernel
theorem d_MO_settle_25 : decode b_MO_settle 25 = .ok (.iastore, 1) := by decide +kernel
theorem d_MO_settle_26 : decode b_MO_settle 26 = .ok (.return_, 1) := by decide +kernel
theorem d_MO_sync_0 : decode b_MO_sync 0 = .ok (.aload_n 0, 1) := by decide +kernel
theorem d_MO_sync_1 : decode b_MO_sync 1 = .ok (.iconst 0, 1) := by decide +kernel
theorem d_MO_sync_2 : decode b_MO_sync 2 = .ok (.putfield 37, 3) := by decide +kernel
theorem d_MO_sync_5 : decode b_MO_sync 5 = .ok (.iload_n 1, 1) := by decide +kernel
theorem d_MO_sync_6 : decode b_MO_sync 6 = .ok (.invokestatic 58, 3) := by decide +kernel
theorem d_MO_sync_9 : decode b_MO_sync 9 = .ok (.ifCond .eq 9, 3) := by decide +kernel
theorem d_MO_sync_12 : decode b_MO_sync 12 = .ok (.aload_n 0, 1) := by decide +kernel
theorem d_MO_sync_13 : decode b_MO_sync 13 = .ok (.iconst 1, 1) := by decide +kernel
theorem d_MO_sync_14 : decode b_MO_sync 14 = .ok (.invokevirtual 44, 3) := by decide +kernel
theorem d_MO_sync_17 : decode b_MO_sync 17 = .ok (.ireturn, 1) := by decide +kernel
theorem d_MO_sync_18 : decode b_MO_sync 18 = .ok (.iconst 0, 1) := by decide +kernel
theorem d_MO_sync_19 : decode b_MO_sync 19 = .ok (.istore_n 2, 1) := by decide +kernel
theorem d_MO_sync_20 : decode b_MO_sync 20 = .ok (.iconst 0, 1) := by decide +kernel
theorem d_MO_sync_21 : decode b_MO_sync 21 = .ok (.istore_n 3, 1) := by decide +kernel
theorem d_MO_sync_22 : decode b_MO_sync 22 = .ok (.iload_n 3, 1) := by decide +kernel
theorem d_MO_sync_23 : decode b_MO_sync 23 = .ok (.aload_n 0, 1) := by decide +kernel
theorem d_MO_sync_24 : decode b_MO_sync 24 = .ok (.getfield 20, 3) := by decide +kernel
theorem d_MO_sync_27 : decode b_MO_sync 27 = .ok (.iconst 2, 1) := by decide +kernel
theorem d_MO_sync_28 : decode b_MO_sync 28 = .ok (.iload_n 1, 1) := by decide +kernel
theorem d_MO_sync_29 : decode b_MO_sync 29 = .ok (.imul, 1) := by decide +kernel
theorem d_MO_sync_30 : decode b_MO_sync 30 = .ok (.iaload, 1) := by decide +kernel
theorem d_MO_sync_31 : decode b_MO_sync 31 = .ok (.invokestatic 53, 3) := by decide +kernel
theorem d_MO_sync_34 : decode b_MO_sync 34 = .ok (.if_icmp .ge 41, 3) := by decide +kernel
theorem d_MO_sync_37 : decode b_MO_sync 37 = .ok (.iload_n 2, 1) := by decide +kernel
theorem d_MO_sync_38 : decode b_MO_sync 38 = .ok (.aload_n 0, 1) := by decide +kernel
theorem d_MO_sync_39 : decode b_MO_sync 39 = .ok (.iconst 2, 1) := by decide +kernel
theorem d_MO_sync_40 : decode b_MO_sync 40 = .ok (.iload_n 1, 1) := by decide +kernel
theorem d_MO_sync_41 : decode b_MO_sync 41 = .ok (.imul, 1) := by decide +kernel
theorem d_MO_sync_42 : decode b_MO_sync 42 = .ok (.iconst 1, 1) := by decide +kernel
theorem d_MO_sync_43 : decode b_MO_sync 43 = .ok (.iadd, 1) := by decide +kernel
theorem d_MO_sync_44 : decode b_MO_sync 44 = .ok (.aload_n 0, 1) := by decide +kernel
theorem d_MO_sync_45 : decode b_MO_sync 45 = .ok (.getfield 17, 3) := by decide +kernel
theorem d_MO_sync_48 : decode b_MO_sync 48 = .ok (.sipush 800, 3) := by decide +kernel
theorem d_MO_sync_51 : decode b_MO_sync 51 = .ok (.iload_n 1, 1) := by decide +kernel
theorem d_MO_sync_52 : decode b_MO_sync 52 = .ok (.imul, 1) := by decide +kernel
theorem d_MO_sync_53 : decode b_MO_sync 53 = .ok (.iload_n 3, 1) := by decide +kernel
theorem d_MO_sync_54 : decode b_MO_sync 54 = .ok (.iadd, 1) := by decide +kernel
theorem d_MO_sync_55 : decode b_MO_sync 55 = .ok (.iaload, 1) := by decide +kernel
theorem d_MO_sync_56 : decode b_MO_sync 56 = .ok (.invokevirtual 83, 3) := by decide +kernel
theorem d_MO_sync_59 : decode b_MO_sync 59 = .ok (.ifCond .eq 7, 3) := by decide +kernel
theorem d_MO_sync_62 : decode b_MO_sync 62 = .ok (.iconst 0, 1) := by decide +kernel
theorem d_MO_sync_63 : decode b_MO_sync 63 = .ok (.goto 4, 3) := by decide +kernel
theorem d_MO_sync_66 : decode b_MO_sync 66 = .ok (.iconst 1, 1) := by decide +kernel
theorem d_MO_sync_67 : decode b_MO_sync 67 = .ok (.iadd, 1) := by decide +kernel
theorem d_MO_sync_68 : decode b_MO_sync 68 = .ok (.istore_n 2, 1) := by decide +kernel
theorem d_MO_sync_69 : decode b_MO_sync 69 = .ok (.iinc 3 1, 3) := by decide +kernel
theorem d_MO_sync_72 : decode b_MO_sync 72 = .ok (.goto (-50), 3) := by decide +kernel
theorem d_MO_sync_75 : decode b_MO_sync 75 = .ok (.aload_n 0, 1) := by decide +kernel
theorem d_MO_sync_76 : decode b_MO_sync 76 = .ok (.iload_n 1, 1) := by decide +kernel
theorem d_MO_sync_77 : decode b_MO_sync 77 = .ok (.invokevirtual 87, 3) := by decide +kernel
theorem d_MO_sync_80 : decode b_MO_sync 80 = .ok (.iload_n 2, 1) := by decide +kernel
theorem d_MO_sync_81 : decode b_MO_sync 81 = .ok (.ireturn, 1) := by decide +kernel
theorem d_MO_breaks_0 : decode b_MO_breaks 0 = .ok (.iload_n 2, 1) := by decide +kernel
theorem d_MO_breaks_1 : decode b_MO_breaks 1 = .ok (.ifCond .ne 18, 3) := by decide +kernel
theorem d_MO_breaks_4 : decode b_MO_breaks 4 = .ok (.aload_n 0, 1) := by decide +kernel
theorem d_MO_breaks_5 : decode b_MO_breaks 5 = .ok (.iconst 2, 1) := by decide +kernel
theorem d_MO_breaks_6 : decode b_MO_breaks 6 = .ok (.iload_n 1, 1) := by decide +kernel
theorem d_MO_breaks_7 : decode b_MO_breaks 7 = .ok (.imul, 1) := by decide +kernel
theorem d_MO_breaks_8 : decode b_MO_breaks 8 = .ok (.iconst 2, 1) := by decide +kernel
theorem d_MO_breaks_9 : decode b_MO_breaks 9 = .ok (.iload_n 1, 1) := by decide +kernel
theorem d_MO_breaks_10 : decode b_MO_breaks 10 = .ok (.imul, 1) := by decide +kernel
theorem d_MO_breaks_11 : decode b_MO_breaks 11 = .ok (.iconst 1, 1) := by decide +kernel
theorem d_MO_breaks_12 : decode b_MO_breaks 12 = .ok (.iadd, 1) := by decide +kernel
theorem d_MO_breaks_13 : decode b_MO_breaks 13 = .ok (.invokevirtual 80, 3) := by decide +kernel
theorem d_MO_breaks_16 : decode b_MO_breaks 16 = .ok (.goto 46, 3) := by decide +kernel
theorem d_MO_breaks_19 : decode b_MO_breaks 19 = .ok (.aload_n 0, 1) := by decide +kernel
theorem d_MO_breaks_20 : decode b_MO_breaks 20 = .ok (.getfield 20, 3) := by decide +kernel
theorem d_MO_breaks_23 : decode b_MO_breaks 23 = .ok (.iconst 2, 1) := by decide +kernel
theorem d_MO_breaks_24 : decode b_MO_breaks 24 = .ok (.iload_n 1, 1) := by decide +kernel
theorem d_MO_breaks_25 : decode b_MO_breaks 25 = .ok (.imul, 1) := by decide +kernel
theorem d_MO_breaks_26 : decode b_MO_breaks 26 = .ok (.iaload, 1) := by decide +kernel
theorem d_MO_breaks_27 : decode b_MO_breaks 27 = .ok (.i2l, 1) := by decide +kernel
theorem d_MO_breaks_28 : decode b_MO_breaks 28 = .ok (.aload_n 0, 1) := by decide +kernel
theorem d_MO_breaks_29 : decode b_MO_breaks 29 = .ok (.getfield 27, 3) := by decide +kernel
theorem d_MO_breaks_32 : decode b_MO_breaks 32 = .ok (.iload_n 1, 1) := by decide +kernel
theorem d_MO_breaks_33 : decode b_MO_breaks 33 = .ok (.iaload, 1) := by decide +kernel
theorem d_MO_breaks_34 : decode b_MO_breaks 34 = .ok (.i2l, 1) := by decide +kernel
theorem d_MO_breaks_35 : decode b_MO_breaks 35 = .ok (.iload_n 2, 1) := by decide +kernel
theorem d_MO_breaks_36 : decode b_MO_breaks 36 = .ok (.i2l, 1) := by decide +kernel
theorem d_MO_breaks_37 : decode b_MO_breaks 37 = .ok (.lconst 1, 1) := by decide +kernel
theorem d_MO_breaks_38 : decode b_MO_breaks 38 = .ok (.lsub, 1) := by decide +kernel
theorem d_MO_breaks_39 : decode b_MO_breaks 39 = .ok (.ladd, 1) := by decide +kernel
theorem d_MO_breaks_40 : decode b_MO_breaks 40 = .ok (.lcmp, 1) := by decide +kernel
theorem d_MO_breaks_41 : decode b_MO_breaks 41 = .ok (.ifCond .le 21, 3) := by decide +kernel
theorem d_MO_breaks_44 : decode b_MO_breaks 44 = .ok (.aload_n 0, 1) := by decide +kernel
theorem d_MO_breaks_45 : decode b_MO_breaks 45 = .ok (.getfield 20, 3) := by decide +kernel
theorem d_MO_breaks_48 : decode b_MO_breaks 48 = .ok (.iconst 2, 1) := by decide +kernel
theorem d_MO_breaks_49 : decode b_MO_breaks 49 = .ok (.iload_n 1, 1) := by decide +kernel
theorem d_MO_breaks_50 : decode b_MO_breaks 50 = .ok (.imul, 1) := by decide +kernel
theorem d_MO_breaks_51 : decode b_MO_breaks 51 = .ok (.aload_n 0, 1) := by decide +kernel
theorem d_MO_breaks_52 : decode b_MO_breaks 52 = .ok (.getfield 27, 3) := by decide +kernel
theorem d_MO_breaks_55 : decode b_MO_breaks 55 = .ok (.iload_n 1, 1) := by decide +kernel
theorem d_MO_breaks_56 : decode b_MO_breaks 56 = .ok (.iaload, 1) := by decide +kernel
theorem d_MO_breaks_57 : decode b_MO_breaks 57 = .ok (.iload_n 2, 1) := by decide +kernel
theorem d_MO_breaks_58 : decode b_MO_breaks 58 = .ok (.iadd, 1) := by decide +kernel
theorem d_MO_breaks_59 : decode b_MO_breaks 59 = .ok (.iconst 1, 1) := by decide +kernel
theorem d_MO_breaks_60 : decode b_MO_breaks 60 = .ok (.isub, 1) := by decide +kernel
theorem d_MO_breaks_61 : decode b_MO_breaks 61 = .ok (.iastore, 1) := by decide +kernel
theorem d_MO_breaks_62 : decode b_MO_breaks 62 = .ok (.aload_n 0, 1) := by decide +kernel
theorem d_MO_breaks_63 : decode b_MO_breaks 63 = .ok (.iload_n 1, 1) := by decide +kernel
theorem d_MO_breaks_64 : decode b_MO_breaks 64 = .ok (.invokevirtual 87, 3) := by decide +kernel
theorem d_MO_breaks_67 : decode b_MO_breaks 67 = .ok (.return_, 1) := by decide +kernel
theorem d_MO_crash_0 : decode b_MO_crash 0 = .ok (.aload_n 0, 1) := by decide +kernel
theorem d_MO_crash_1 : decode b_MO_crash 1 = .ok (.iconst 0, 1) := by decide +kernel
theorem d_MO_crash_2 : decode b_MO_crash 2 = .ok (.putfield 37, 3) := by decide +kernel
theorem d_MO_crash_5 : decode b_MO_crash 5 = .ok (.iload_n 1, 1) := by decide +kernel
theorem d_MO_crash_6 : decode b_MO_crash 6 = .ok (.invokestatic 58, 3) := by decide +kernel
theorem d_MO_crash_9 : decode b_MO_crash 9 = .ok (.ifCond .eq 9, 3) := by decide +kernel
theorem d_MO_crash_12 : decode b_MO_crash 12 = .ok (.aload_n 0, 1) := by decide +kernel
theorem d_MO_crash_13 : decode b_MO_crash 13 = .ok (.iconst 1, 1) := by decide +kernel
theorem d_MO_crash_14 : decode b_MO_crash 14 = .ok (.invokevirtual 44, 3) := by decide +kernel
theorem d_MO_crash_17 : decode b_MO_crash 17 = .ok (.ireturn, 1) := by decide +kernel
theorem d_MO_crash_18 : decode b_MO_crash 18 = .ok (.iload_n 2, 1) := by decide +kernel
theorem d_MO_crash_19 : decode b_MO_crash 19 = .ok (.ifCond .ge 9, 3) := by decide +kernel
theorem d_MO_crash_22 : decode b_MO_crash 22 = .ok (.aload_n 0, 1) := by decide +kernel
theorem d_MO_crash_23 : decode b_MO_crash 23 = .ok (.iconst 2, 1) := by decide +kernel
theorem d_MO_crash_24 : decode b_MO_crash 24 = .ok (.invokevirtual 44, 3) := by decide +kernel
theorem d_MO_crash_27 : decode b_MO_crash 27 = .ok (.ireturn, 1) := by decide +kernel
theorem d_MO_crash_28 : decode b_MO_crash 28 = .ok (.aload_n 0, 1) := by decide +kernel
theorem d_MO_crash_29 : decode b_MO_crash 29 = .ok (.iload_n 1, 1) := by decide +kernel
theorem d_MO_crash_30 : decode b_MO_crash 30 = .ok (.iload_n 2, 1) := by decide +kernel
theorem d_MO_crash_31 : decode b_MO_crash 31 = .ok (.invokevirtual 91, 3) := by decide +kernel
theorem d_MO_crash_34 : decode b_MO_crash 34 = .ok (.aload_n 0, 1) := by decide +kernel
theorem d_MO_crash_35 : decode b_MO_crash 35 = .ok (.getfield 20, 3) := by decide +kernel
theorem d_MO_crash_38 : decode b_MO_crash 38 = .ok (.iconst 2, 1) := by decide +kernel
theorem d_MO_crash_39 : decode b_MO_crash 39 = .ok (.iload_n 1, 1) := by decide +kernel
theorem d_MO_crash_40 : decode b_MO_crash 40 = .ok (.imul, 1) := by decide +kernel
theorem d_MO_crash_41 : decode b_MO_crash 41 = .ok (.iaload, 1) := by decide +kernel
theorem d_MO_crash_42 : decode b_MO_crash 42 = .ok (.ireturn, 1) := by decide +kernel
theorem d_MO_present_0 : decode b_MO_present 0 = .ok (.iconst 0, 1) := by decide +kernel
theorem d_MO_present_1 : decode b_MO_present 1 = .ok (.istore_n 1, 1) := by decide +kernel
theorem d_MO_present_2 : decode b_MO_present 2 = .ok (.iconst 0, 1) := by decide +kernel
theorem d_MO_present_3 : decode b_MO_present 3 = .ok (.istore_n 2, 1) := by decide +kernel
theorem d_MO_present_4 : decode b_MO_present 4 = .ok (.iload_n 2, 1) := by decide +kernel
theorem d_MO_present_5 : decode b_MO_present 5 = .ok (.bipush 16, 2) := by decide +kernel
theorem d_MO_present_7 : decode b_MO_present 7 = .ok (.if_icmp .ge 28, 3) := by decide +kernel
theorem d_MO_present_10 : decode b_MO_present 10 = .ok (.iload_n 1, 1) := by decide +kernel
theorem d_MO_present_11 : decode b_MO_present 11 = .ok (.aload_n 0, 1) := by decide +kernel
theorem d_MO_present_12 : decode b_MO_present 12 = .ok (.getfield 23, 3) := by decide +kernel
theorem d_MO_present_15 : decode b_MO_present 15 = .ok (.iconst 2, 1) := by decide +kernel
theorem d_MO_present_16 : decode b_MO_present 16 = .ok (.iload_n 2, 1) := by decide +kernel
theorem d_MO_present_17 : decode b_MO_present 17 = .ok (.imul, 1) := by decide +kernel
theorem d_MO_present_18 : decode b_MO_present 18 = .ok (.baload, 1) := by decide +kernel
theorem d_MO_present_19 : decode b_MO_present 19 = .ok (.ifCond .eq 7, 3) := by decide +kernel
theorem d_MO_present_22 : decode b_MO_present 22 = .ok (.iconst 1, 1) := by decide +kernel
theorem d_MO_present_23 : decode b_MO_present 23 = .ok (.goto 4, 3) := by decide +kernel
theorem d_MO_present_26 : decode b_MO_present 26 = .ok (.iconst 0, 1) := by decide +kernel
theorem d_MO_present_27 : decode b_MO_present 27 = .ok (.iadd, 1) := by decide +kernel
theorem d_MO_present_28 : decode b_MO_present 28 = .ok (.istore_n 1, 1) := by decide +kernel
theorem d_MO_present_29 : decode b_MO_present 29 = .ok (.iinc 2 1, 3) := by decide +kernel
theorem d_MO_present_32 : decode b_MO_present 32 = .ok (.goto (-28), 3) := by decide +kernel
theorem d_MO_present_35 : decode b_MO_present 35 = .ok (.iload_n 1, 1) := by decide +kernel
theorem d_MO_present_36 : decode b_MO_present 36 = .ok (.ireturn, 1) := by decide +kernel
theorem d_MO_crashAll_0 : decode b_MO_crashAll 0 = .ok (.aload_n 0, 1) := by decide +kernel
theorem d_MO_crashAll_1 : decode b_MO_crashAll 1 = .ok (.iconst 0, 1) := by decide +kernel
theorem d_MO_crashAll_2 : decode b_MO_crashAll 2 = .ok (.putfield 37, 3) := by decide +kernel
theorem d_MO_crashAll_5 : decode b_MO_crashAll 5 = .ok (.lload_n 1, 1) := by decide +kernel
theorem d_MO_crashAll_6 : decode b_MO_crashAll 6 = .ok (.lstore_n 3, 1) := by decide +kernel
theorem d_MO_crashAll_7 : decode b_MO_crashAll 7 = .ok (.iconst 0, 1) := by decide +kernel
theorem d_MO_crashAll_8 : decode b_MO_crashAll 8 = .ok (.istore 5, 2) := by decide +kernel
theorem d_MO_crashAll_10 : decode b_MO_crashAll 10 = .ok (.iload 5, 2) := by decide +kernel
theorem d_MO_crashAll_12 : decode b_MO_crashAll 12 = .ok (.bipush 16, 2) := by decide +kernel
theorem d_MO_crashAll_14 : decode b_MO_crashAll 14 = .ok (.if_icmp .ge 82, 3) := by decide +kernel
theorem d_MO_crashAll_17 : decode b_MO_crashAll 17 = .ok (.lload_n 3, 1) := by decide +kernel
theorem d_MO_crashAll_18 : decode b_MO_crashAll 18 = .ok (.ldc2_w 94, 3) := by decide +kernel
theorem d_MO_crashAll_21 : decode b_MO_crashAll 21 = .ok (.lmul, 1) := by decide +kernel
theorem d_MO_crashAll_22 : decode b_MO_crashAll 22 = .ok (.ldc2_w 96, 3) := by decide +kernel
theorem d_MO_crashAll_25 : decode b_MO_crashAll 25 = .ok (.ladd, 1) := by decide +kernel
theorem d_MO_crashAll_26 : decode b_MO_crashAll 26 = .ok (.lstore_n 3, 1) := by decide +kernel
theorem d_MO_crashAll_27 : decode b_MO_crashAll 27 = .ok (.lload_n 3, 1) := by decide +kernel
theorem d_MO_crashAll_28 : decode b_MO_crashAll 28 = .ok (.bipush 33, 2) := by decide +kernel
theorem d_MO_crashAll_30 : decode b_MO_crashAll 30 = .ok (.lushr, 1) := by decide +kernel
theorem d_MO_crashAll_31 : decode b_MO_crashAll 31 = .ok (.ldc2_w 98, 3) := by decide +kernel
theorem d_MO_crashAll_34 : decode b_MO_crashAll 34 = .ok (.lrem, 1) := by decide +kernel
theorem d_MO_crashAll_35 : decode b_MO_crashAll 35 = .ok (.lstore 6, 2) := by decide +kernel
theorem d_MO_crashAll_37 : decode b_MO_crashAll 37 = .ok (.ldc2_w 100, 3) := by decide +kernel
theorem d_MO_crashAll_40 : decode b_MO_crashAll 40 = .ok (.aload_n 0, 1) := by decide +kernel
theorem d_MO_crashAll_41 : decode b_MO_crashAll 41 = .ok (.getfield 20, 3) := by decide +kernel
theorem d_MO_crashAll_44 : decode b_MO_crashAll 44 = .ok (.iconst 2, 1) := by decide +kernel
theorem d_MO_crashAll_45 : decode b_MO_crashAll 45 = .ok (.iload 5, 2) := by decide +kernel
theorem d_MO_crashAll_47 : decode b_MO_crashAll 47 = .ok (.imul, 1) := by decide +kernel
theorem d_MO_crashAll_48 : decode b_MO_crashAll 48 = .ok (.iaload, 1) := by decide +kernel
theorem d_MO_crashAll_49 : decode b_MO_crashAll 49 = .ok (.aload_n 0, 1) := by decide +kernel
theorem d_MO_crashAll_50 : decode b_MO_crashAll 50 = .ok (.getfield 27, 3) := by decide +kernel
theorem d_MO_crashAll_53 : decode b_MO_crashAll 53 = .ok (.iload 5, 2) := by decide +kernel
theorem d_MO_crashAll_55 : decode b_MO_crashAll 55 = .ok (.iaload, 1) := by decide +kernel
theorem d_MO_crashAll_56 : decode b_MO_crashAll 56 = .ok (.isub, 1) := by decide +kernel
theorem d_MO_crashAll_57 : decode b_MO_crashAll 57 = .ok (.i2l, 1) := by decide +kernel
theorem d_MO_crashAll_58 : decode b_MO_crashAll 58 = .ok (.lmul, 1) := by decide +kernel
theorem d_MO_crashAll_59 : decode b_MO_crashAll 59 = .ok (.lconst 1, 1) := by decide +kernel
theorem d_MO_crashAll_60 : decode b_MO_crashAll 60 = .ok (.ladd, 1) := by decide +kernel
theorem d_MO_crashAll_61 : decode b_MO_crashAll 61 = .ok (.lstore 8, 2) := by decide +kernel
theorem d_MO_crashAll_63 : decode b_MO_crashAll 63 = .ok (.aload_n 0, 1) := by decide +kernel
theorem d_MO_crashAll_64 : decode b_MO_crashAll 64 = .ok (.iload 5, 2) := by decide +kernel
theorem d_MO_crashAll_66 : decode b_MO_crashAll 66 = .ok (.lload_n 3, 1) := by decide +kernel
theorem d_MO_crashAll_67 : decode b_MO_crashAll 67 = .ok (.bipush 61, 2) := by decide +kernel
theorem d_MO_crashAll_69 : decode b_MO_crashAll 69 = .ok (.lushr, 1) := by decide +kernel
theorem d_MO_crashAll_70 : decode b_MO_crashAll 70 = .ok (.lconst 0, 1) := by decide +kernel
theorem d_MO_crashAll_71 : decode b_MO_crashAll 71 = .ok (.lcmp, 1) := by decide +kernel
theorem d_MO_crashAll_72 : decode b_MO_crashAll 72 = .ok (.ifCond .ne 7, 3) := by decide +kernel
theorem d_MO_crashAll_75 : decode b_MO_crashAll 75 = .ok (.iconst 0, 1) := by decide +kernel
theorem d_MO_crashAll_76 : decode b_MO_crashAll 76 = .ok (.goto 11, 3) := by decide +kernel
theorem d_MO_crashAll_79 : decode b_MO_crashAll 79 = .ok (.iconst 1, 1) := by decide +kernel
theorem d_MO_crashAll_80 : decode b_MO_crashAll 80 = .ok (.lload 6, 2) := by decide +kernel
theorem d_MO_crashAll_82 : decode b_MO_crashAll 82 = .ok (.lload 8, 2) := by decide +kernel
theorem d_MO_crashAll_84 : decode b_MO_crashAll 84 = .ok (.lrem, 1) := by decide +kernel
theorem d_MO_crashAll_85 : decode b_MO_crashAll 85 = .ok (.l2i, 1) := by decide +kernel
theorem d_MO_crashAll_86 : decode b_MO_crashAll 86 = .ok (.iadd, 1) := by decide +kernel
theorem d_MO_crashAll_87 : decode b_MO_crashAll 87 = .ok (.invokevirtual 91, 3) := by decide +kernel
theorem d_MO_crashAll_90 : decode b_MO_crashAll 90 = .ok (.iinc 5 1, 3) := by decide +kernel
theorem d_MO_crashAll_93 : decode b_MO_crashAll 93 = .ok (.goto (-83), 3) := by decide +kernel
theorem d_MO_crashAll_96 : decode b_MO_crashAll 96 = .ok (.aload_n 0, 1) := by decide +kernel
theorem d_MO_crashAll_97 : decode b_MO_crashAll 97 = .ok (.invokevirtual 102, 3) := by decide +kernel
theorem d_MO_crashAll_100 : decode b_MO_crashAll 100 = .ok (.ireturn, 1) := by decide +kernel
theorem d_MO_sharedPages_0 : decode b_MO_sharedPages 0 = .ok (.aload_n 0, 1) := by decide +kernel
theorem d_MO_sharedPages_1 : decode b_MO_sharedPages 1 = .ok (.invokevirtual 62, 3) := by decide +kernel
theorem d_MO_sharedPages_4 : decode b_MO_sharedPages 4 = .ok (.pop, 1) := by decide +kernel
theorem d_MO_sharedPages_5 : decode b_MO_sharedPages 5 = .ok (.iconst 0, 1) := by decide +kernel
theorem d_MO_sharedPages_6 : decode b_MO_sharedPages 6 = .ok (.istore_n 2, 1) := by decide +kernel
theorem d_MO_sharedPages_7 : decode b_MO_sharedPages 7 = .ok (.iconst 0, 1) := by decide +kernel
theorem d_MO_sharedPages_8 : decode b_MO_sharedPages 8 = .ok (.istore_n 3, 1) := by decide +kernel
theorem d_MO_sharedPages_9 : decode b_MO_sharedPages 9 = .ok (.iload_n 3, 1) := by decide +kernel
theorem d_MO_sharedPages_10 : decode b_MO_sharedPages 10 = .ok (.aload_n 0, 1) := by decide +kernel
theorem d_MO_sharedPages_11 : decode b_MO_sharedPages 11 = .ok (.getfield 20, 3) := by decide +kernel
theorem d_MO_sharedPages_14 : decode b_MO_sharedPages 14 = .ok (.iconst 2, 1) := by decide +kernel
theorem d_MO_sharedPages_15 : decode b_MO_sharedPages 15 = .ok (.iload_n 1, 1) := by decide +kernel
theorem d_MO_sharedPages_16 : decode b_MO_sharedPages 16 = .ok (.imul, 1) := by decide +kernel
theorem d_MO_sharedPages_17 : decode b_MO_sharedPages 17 = .ok (.iaload, 1) := by decide +kernel
theorem d_MO_sharedPages_18 : decode b_MO_sharedPages 18 = .ok (.invokestatic 53, 3) := by decide +kernel
theorem d_MO_sharedPages_21 : decode b_MO_sharedPages 21 = .ok (.if_icmp .ge 38, 3) := by decide +kernel
theorem d_MO_sharedPages_24 : decode b_MO_sharedPages 24 = .ok (.iload_n 2, 1) := by decide +kernel
theorem d_MO_sharedPages_25 : decode b_MO_sharedPages 25 = .ok (.aload_n 0, 1) := by decide +kernel
theorem d_MO_sharedPages_26 : decode b_MO_sharedPages 26 = .ok (.getfield 30, 3) := by decide +kernel
theorem d_MO_sharedPages_29 : decode b_MO_sharedPages 29 = .ok (.aload_n 0, 1) := by decide +kernel
theorem d_MO_sharedPages_30 : decode b_MO_sharedPages 30 = .ok (.getfield 17, 3) := by decide +kernel
theorem d_MO_sharedPages_33 : decode b_MO_sharedPages 33 = .ok (.sipush 800, 3) := by decide +kernel
theorem d_MO_sharedPages_36 : decode b_MO_sharedPages 36 = .ok (.iload_n 1, 1) := by decide +kernel
theorem d_MO_sharedPages_37 : decode b_MO_sharedPages 37 = .ok (.imul, 1) := by decide +kernel
theorem d_MO_sharedPages_38 : decode b_MO_sharedPages 38 = .ok (.iload_n 3, 1) := by decide +kernel
theorem d_MO_sharedPages_39 : decode b_MO_sharedPages 39 = .ok (.iadd, 1) := by decide +kernel
theorem d_MO_sharedPages_40 : decode b_MO_sharedPages 40 = .ok (.iaload, 1) := by decide +kernel
theorem d_MO_sharedPages_41 : decode b_MO_sharedPages 41 = .ok (.iaload, 1) := by decide +kernel
theorem d_MO_sharedPages_42 : decode b_MO_sharedPages 42 = .ok (.iconst 1, 1) := by decide +kernel
theorem d_MO_sharedPages_43 : decode b_MO_sharedPages 43 = .ok (.if_icmp .le 7, 3) := by decide +kernel
theorem d_MO_sharedPages_46 : decode b_MO_sharedPages 46 = .ok (.iconst 1, 1) := by decide +kernel
theorem d_MO_sharedPages_47 : decode b_MO_sharedPages 47 = .ok (.goto 4, 3) := by decide +kernel
theorem d_MO_sharedPages_50 : decode b_MO_sharedPages 50 = .ok (.iconst 0, 1) := by decide +kernel
theorem d_MO_sharedPages_51 : decode b_MO_sharedPages 51 = .ok (.iadd, 1) := by decide +kernel
theorem d_MO_sharedPages_52 : decode b_MO_sharedPages 52 = .ok (.istore_n 2, 1) := by decide +kernel
theorem d_MO_sharedPages_53 : decode b_MO_sharedPages 53 = .ok (.iinc 3 1, 3) := by decide +kernel
theorem d_MO_sharedPages_56 : decode b_MO_sharedPages 56 = .ok (.goto (-47), 3) := by decide +kernel
theorem d_MO_sharedPages_59 : decode b_MO_sharedPages 59 = .ok (.iload_n 2, 1) := by decide +kernel
theorem d_MO_sharedPages_60 : decode b_MO_sharedPages 60 = .ok (.ireturn, 1) := by decide +kernel
theorem d_MO_file_0 : decode b_MO_file 0 = .ok (.aload_n 0, 1) := by decide +kernel
theorem d_MO_file_1 : decode b_MO_file 1 = .ok (.iconst 0, 1) := by decide +kernel
theorem d_MO_file_2 : decode b_MO_file 2 = .ok (.putfield 37, 3) := by decide +kernel
theorem d_MO_file_5 : decode b_MO_file 5 = .ok (.iload_n 1, 1) := by decide +kernel
theorem d_MO_file_6 : decode b_MO_file 6 = .ok (.invokestatic 58, 3) := by decide +kernel
theorem d_MO_file_9 : decode b_MO_file 9 = .ok (.ifCond .ne 13, 3) := by decide +kernel
theorem d_MO_file_12 : decode b_MO_file 12 = .ok (.iload_n 2, 1) := by decide +kernel
theorem d_MO_file_13 : decode b_MO_file 13 = .ok (.iconst 0, 1) := by decide +kernel
theorem d_MO_file_14 : decode b_MO_file 14 = .ok (.bipush 7, 2) := by decide +kernel
theorem d_MO_file_16 : decode b_MO_file 16 = .ok (.invokestatic 40, 3) := by decide +kernel
theorem d_MO_file_19 : decode b_MO_file 19 = .ok (.ifCond .ne 9, 3) := by decide +kernel
theorem d_MO_file_22 : decode b_MO_file 22 = .ok (.aload_n 0, 1) := by decide +kernel
theorem d_MO_file_23 : decode b_MO_file 23 = .ok (.iconst 1, 1) := by decide +kernel
theorem d_MO_file_24 : decode b_MO_file 24 = .ok (.invokevirtual 44, 3) := by decide +kernel
theorem d_MO_file_27 : decode b_MO_file 27 = .ok (.ireturn, 1) := by decide +kernel
theorem d_MO_file_28 : decode b_MO_file 28 = .ok (.iload_n 2, 1) := by decide +kernel
theorem d_MO_file_29 : decode b_MO_file 29 = .ok (.iconst 2, 1) := by decide +kernel
theorem d_MO_file_30 : decode b_MO_file 30 = .ok (.if_icmp .ge 14, 3) := by decide +kernel
theorem d_MO_file_33 : decode b_MO_file 33 = .ok (.aload_n 0, 1) := by decide +kernel
theorem d_MO_file_34 : decode b_MO_file 34 = .ok (.getfield 20, 3) := by decide +kernel
theorem d_MO_file_37 : decode b_MO_file 37 = .ok (.iconst 2, 1) := by decide +kernel
theorem d_MO_file_38 : decode b_MO_file 38 = .ok (.iload_n 1, 1) := by decide +kernel
theorem d_MO_file_39 : decode b_MO_file 39 = .ok (.imul, 1) := by decide +kernel
theorem d_MO_file_40 : decode b_MO_file 40 = .ok (.iload_n 2, 1) := by decide +kernel
theorem d_MO_file_41 : decode b_MO_file 41 = .ok (.iadd, 1) := by decide +kernel
theorem d_MO_file_42 : decode b_MO_file 42 = .ok (.iaload, 1) := by decide +kernel
theorem d_MO_file_43 : decode b_MO_file 43 = .ok (.ireturn, 1) := by decide +kernel
theorem d_MO_file_44 : decode b_MO_file 44 = .ok (.iload_n 2, 1) := by decide +kernel
theorem d_MO_file_45 : decode b_MO_file 45 = .ok (.iconst 2, 1) := by decide +kernel
theorem d_MO_file_46 : decode b_MO_file 46 = .ok (.if_icmp .ne 10, 3) := by decide +kernel
theorem d_MO_file_49 : decode b_MO_file 49 = .ok (.aload_n 0, 1) := by decide +kernel
theorem d_MO_file_50 : decode b_MO_file 50 = .ok (.getfield 27, 3) := by decide +kernel
theorem d_MO_file_53 : decode b_MO_file 53 = .ok (.iload_n 1, 1) := by decide +kernel
theorem d_MO_file_54 : decode b_MO_file 54 = .ok (.iaload, 1) := by decide +kernel
theorem d_MO_file_55 : decode b_MO_file 55 = .ok (.ireturn, 1) := by decide +kernel
theorem d_MO_file_56 : decode b_MO_file 56 = .ok (.iload_n 2, 1) := by decide +kernel
theorem d_MO_file_57 : decode b_MO_file 57 = .ok (.iconst 5, 1) := by decide +kernel
theorem d_MO_file_58 : decode b_MO_file 58 = .ok (.if_icmp .ge 24, 3) := by decide +kernel
theorem d_MO_file_61 : decode b_MO_file 61 = .ok (.aload_n 0, 1) := by decide +kernel
theorem d_MO_file_62 : decode b_MO_file 62 = .ok (.getfield 23, 3) := by decide +kernel
theorem d_MO_file_65 : decode b_MO_file 65 = .ok (.iconst 2, 1) := by decide +kernel
theorem d_MO_file_66 : decode b_MO_file 66 = .ok (.iload_n 1, 1) := by decide +kernel
theorem d_MO_file_67 : decode b_MO_file 67 = .ok (.imul, 1) := by decide +kernel
theorem d_MO_file_68 : decode b_MO_file 68 = .ok (.iload_n 2, 1) := by decide +kernel
theorem d_MO_file_69 : decode b_MO_file 69 = .ok (.iadd, 1) := by decide +kernel
theorem d_MO_file_70 : decode b_MO_file 70 = .ok (.iconst 3, 1) := by decide +kernel
theorem d_MO_file_71 : decode b_MO_file 71 = .ok (.isub, 1) := by decide +kernel
theorem d_MO_file_72 : decode b_MO_file 72 = .ok (.baload, 1) := by decide +kernel
theorem d_MO_file_73 : decode b_MO_file 73 = .ok (.ifCond .eq 7, 3) := by decide +kernel
theorem d_MO_file_76 : decode b_MO_file 76 = .ok (.iconst 1, 1) := by decide +kernel
theorem d_MO_file_77 : decode b_MO_file 77 = .ok (.goto 4, 3) := by decide +kernel
theorem d_MO_file_80 : decode b_MO_file 80 = .ok (.iconst 0, 1) := by decide +kernel
theorem d_MO_file_81 : decode b_MO_file 81 = .ok (.ireturn, 1) := by decide +kernel
theorem d_MO_file_82 : decode b_MO_file 82 = .ok (.iload_n 2, 1) := by decide +kernel
theorem d_MO_file_83 : decode b_MO_file 83 = .ok (.bipush 7, 2) := by decide +kernel
theorem d_MO_file_85 : decode b_MO_file 85 = .ok (.if_icmp .ge 21, 3) := by decide +kernel
theorem d_MO_file_88 : decode b_MO_file 88 = .ok (.aload_n 0, 1) := by decide +kernel
theorem d_MO_file_89 : decode b_MO_file 89 = .ok (.getfield 20, 3) := by decide +kernel
theorem d_MO_file_92 : decode b_MO_file 92 = .ok (.iconst 2, 1) := by decide +kernel
theorem d_MO_file_93 : decode b_MO_file 93 = .ok (.iload_n 1, 1) := by decide +kernel
theorem d_MO_file_94 : decode b_MO_file 94 = .ok (.imul, 1) := by decide +kernel
theorem d_MO_file_95 : decode b_MO_file 95 = .ok (.iload_n 2, 1) := by decide +kernel
theorem d_MO_file_96 : decode b_MO_file 96 = .ok (.iadd, 1) := by decide +kernel
theorem d_MO_file_97 : decode b_MO_file 97 = .ok (.iconst 5, 1) := by decide +kernel
theorem d_MO_file_98 : decode b_MO_file 98 = .ok (.isub, 1) := by decide +kernel
theorem d_MO_file_99 : decode b_MO_file 99 = .ok (.iaload, 1) := by decide +kernel
theorem d_MO_file_100 : decode b_MO_file 100 = .ok (.invokestatic 53, 3) := by decide +kernel
theorem d_MO_file_103 : decode b_MO_file 103 = .ok (.goto 8, 3) := by decide +kernel
theorem d_MO_file_106 : decode b_MO_file 106 = .ok (.aload_n 0, 1) := by decide +kernel
theorem d_MO_file_107 : decode b_MO_file 107 = .ok (.iload_n 1, 1) := by decide +kernel
theorem d_MO_file_108 : decode b_MO_file 108 = .ok (.invokevirtual 105, 3) := by decide +kernel
theorem d_MO_file_111 : decode b_MO_file 111 = .ok (.ireturn, 1) := by decide +kernel
theorem d_MO_byteAt_0 : decode b_MO_byteAt 0 = .ok (.aload_n 0, 1) := by decide +kernel
theorem d_MO_byteAt_1 : decode b_MO_byteAt 1 = .ok (.iconst 0, 1) := by decide +kernel
theorem d_MO_byteAt_2 : decode b_MO_byteAt 2 = .ok (.putfield 37, 3) := by decide +kernel
theorem d_MO_byteAt_5 : decode b_MO_byteAt 5 = .ok (.iconst 2, 1) := by decide +kernel
theorem d_MO_byteAt_6 : decode b_MO_byteAt 6 = .ok (.iload_n 1, 1) := by decide +kernel
theorem d_MO_byteAt_7 : decode b_MO_byteAt 7 = .ok (.imul, 1) := by decide +kernel
theorem d_MO_byteAt_8 : decode b_MO_byteAt 8 = .ok (.iload_n 2, 1) := by decide +kernel
theorem d_MO_byteAt_9 : decode b_MO_byteAt 9 = .ok (.ifCond .eq 7, 3) := by decide +kernel
theorem d_MO_byteAt_12 : decode b_MO_byteAt 12 = .ok (.iconst 1, 1) := by decide +kernel
theorem d_MO_byteAt_13 : decode b_MO_byteAt 13 = .ok (.goto 4, 3) := by decide +kernel
theorem d_MO_byteAt_16 : decode b_MO_byteAt 16 = .ok (.iconst 0, 1) := by decide +kernel
theorem d_MO_byteAt_17 : decode b_MO_byteAt 17 = .ok (.iadd, 1) := by decide +kernel
theorem d_MO_byteAt_18 : decode b_MO_byteAt 18 = .ok (.istore 4, 2) := by decide +kernel
theorem d_MO_byteAt_20 : decode b_MO_byteAt 20 = .ok (.iload_n 1, 1) := by decide +kernel
theorem d_MO_byteAt_21 : decode b_MO_byteAt 21 = .ok (.invokestatic 58, 3) := by decide +kernel
theorem d_MO_byteAt_24 : decode b_MO_byteAt 24 = .ok (.ifCond .ne 20, 3) := by decide +kernel
theorem d_MO_byteAt_27 : decode b_MO_byteAt 27 = .ok (.iload_n 3, 1) := by decide +kernel
theorem d_MO_byteAt_28 : decode b_MO_byteAt 28 = .ok (.iconst 0, 1) := by decide +kernel
theorem d_MO_byteAt_29 : decode b_MO_byteAt 29 = .ok (.aload_n 0, 1) := by decide +kernel
theorem d_MO_byteAt_30 : decode b_MO_byteAt 30 = .ok (.getfield 20, 3) := by decide +kernel
theorem d_MO_byteAt_33 : decode b_MO_byteAt 33 = .ok (.iload 4, 2) := by decide +kernel
theorem d_MO_byteAt_35 : decode b_MO_byteAt 35 = .ok (.iaload, 1) := by decide +kernel
theorem d_MO_byteAt_36 : decode b_MO_byteAt 36 = .ok (.iconst 1, 1) := by decide +kernel
theorem d_MO_byteAt_37 : decode b_MO_byteAt 37 = .ok (.isub, 1) := by decide +kernel
theorem d_MO_byteAt_38 : decode b_MO_byteAt 38 = .ok (.invokestatic 40, 3) := by decide +kernel
theorem d_MO_byteAt_41 : decode b_MO_byteAt 41 = .ok (.ifCond .ne 11, 3) := by decide +kernel
theorem d_MO_byteAt_44 : decode b_MO_byteAt 44 = .ok (.aload_n 0, 1) := by decide +kernel
theorem d_MO_byteAt_45 : decode b_MO_byteAt 45 = .ok (.iconst 1, 1) := by decide +kernel
theorem d_MO_byteAt_46 : decode b_MO_byteAt 46 = .ok (.invokevirtual 44, 3) := by decide +kernel
theorem d_MO_byteAt_49 : decode b_MO_byteAt 49 = .ok (.goto 10, 3) := by decide +kernel
theorem d_MO_byteAt_52 : decode b_MO_byteAt 52 = .ok (.aload_n 0, 1) := by decide +kernel
theorem d_MO_byteAt_53 : decode b_MO_byteAt 53 = .ok (.iload 4, 2) := by decide +kernel
theorem d_MO_byteAt_55 : decode b_MO_byteAt 55 = .ok (.iload_n 3, 1) := by decide +kernel
theorem d_MO_byteAt_56 : decode b_MO_byteAt 56 = .ok (.invokevirtual 108, 3) := by decide +kernel
theorem d_MO_byteAt_59 : decode b_MO_byteAt 59 = .ok (.ireturn, 1) := by decide +kernel
theorem d_MO_count_0 : decode b_MO_count 0 = .ok (.aload_n 0, 1) := by decide +kernel
theorem d_MO_count_1 : decode b_MO_count 1 = .ok (.iconst 0, 1) := by decide +kernel
theorem d_MO_count_2 : decode b_MO_count 2 = .ok (.putfield 37, 3) := by decide +kernel
theorem d_MO_count_5 : decode b_MO_count 5 = .ok (.iload_n 1, 1) := by decide +kernel
theorem d_MO_count_6 : decode b_MO_count 6 = .ok (.ifCond .lt 8, 3) := by decide +kernel
theorem d_MO_count_9 : decode b_MO_count 9 = .ok (.iload_n 1, 1) := by decide +kernel
theorem d_MO_count_10 : decode b_MO_count 10 = .ok (.iconst 4, 1) := by decide +kernel
theorem d_MO_count_11 : decode b_MO_count 11 = .ok (.if_icmp .le 5, 3) := by decide +kernel
theorem d_MO_count_14 : decode b_MO_count 14 = .ok (.iconst (-1), 1) := by decide +kernel
theorem d_MO_count_15 : decode b_MO_count 15 = .ok (.ireturn, 1) := by decide +kernel
theorem d_MO_count_16 : decode b_MO_count 16 = .ok (.iload_n 1, 1) := by decide +kernel
theorem d_MO_count_17 : decode b_MO_count 17 = .ok (.iconst 2, 1) := by decide +kernel
theorem d_MO_count_18 : decode b_MO_count 18 = .ok (.if_icmp .ge 19, 3) := by decide +kernel
theorem d_MO_count_21 : decode b_MO_count 21 = .ok (.iload_n 1, 1) := by decide +kernel
theorem d_MO_count_22 : decode b_MO_count 22 = .ok (.ifCond .ne 10, 3) := by decide +kernel
theorem d_MO_count_25 : decode b_MO_count 25 = .ok (.aload_n 0, 1) := by decide +kernel
theorem d_MO_count_26 : decode b_MO_count 26 = .ok (.invokevirtual 62, 3) := by decide +kernel
theorem d_MO_count_29 : decode b_MO_count 29 = .ok (.goto 7, 3) := by decide +kernel
theorem d_MO_count_32 : decode b_MO_count 32 = .ok (.aload_n 0, 1) := by decide +kernel
theorem d_MO_count_33 : decode b_MO_count 33 = .ok (.getfield 33, 3) := by decide +kernel
theorem d_MO_count_36 : decode b_MO_count 36 = .ok (.ireturn, 1) := by decide +kernel
theorem d_MO_count_37 : decode b_MO_count 37 = .ok (.iload_n 1, 1) := by decide +kernel
theorem d_MO_count_38 : decode b_MO_count 38 = .ok (.iconst 2, 1) := by decide +kernel
theorem d_MO_count_39 : decode b_MO_count 39 = .ok (.if_icmp .ne 10, 3) := by decide +kernel
theorem d_MO_count_42 : decode b_MO_count 42 = .ok (.aload_n 0, 1) := by decide +kernel
theorem d_MO_count_43 : decode b_MO_count 43 = .ok (.getfield 69, 3) := by decide +kernel
theorem d_MO_count_46 : decode b_MO_count 46 = .ok (.goto 19, 3) := by decide +kernel
theorem d_MO_count_49 : decode b_MO_count 49 = .ok (.iload_n 1, 1) := by decide +kernel
theorem d_MO_count_50 : decode b_MO_count 50 = .ok (.iconst 3, 1) := by decide +kernel
theorem d_MO_count_51 : decode b_MO_count 51 = .ok (.if_icmp .ne 10, 3) := by decide +kernel
theorem d_MO_count_54 : decode b_MO_count 54 = .ok (.aload_n 0, 1) := by decide +kernel
theorem d_MO_count_55 : decode b_MO_count 55 = .ok (.getfield 48, 3) := by decide +kernel
theorem d_MO_count_58 : decode b_MO_count 58 = .ok (.goto 7, 3) := by decide +kernel
theorem d_MO_count_61 : decode b_MO_count 61 = .ok (.aload_n 0, 1) := by decide +kernel
theorem d_MO_count_62 : decode b_MO_count 62 = .ok (.invokevirtual 102, 3) := by decide +kernel
theorem d_MO_count_65 : decode b_MO_count 65 = .ok (.ireturn, 1) := by decide +kernel
end
section
/-! THE MODEL'S WORLD: 8 cells -/
def mwx (n : Nat) (am : Nat → Nat) (cI cL cZ : ClassId) (t f k : Nat) (tp b0 rw s4 s5 s6 s1 : Nat → Nat) : va_W := [(am 0, .inr (4, [.int (nI t), .int (nI n), .int (nI f), .ref (am 1), .ref (am 2), .ref (am 3), .ref (am 4), .ref (am 5), .ref (am 6), .int (nI k), .ref (am 7)])), (am 1, .inl (cI, 4096, .inl (fun j => nI (tp j)))), (am 2, .inl (cL, 8192, .inr (.inl (fun w => pd_lw b0 w)))), (am 3, .inl (cI, 12800, .inl (fun j => nI (rw j)))), (am 4, .inl (cI, 32, .inl (fun j => nI (s4 j)))), (am 5, .inl (cZ, 32, .inl (fun j => nI (s5 j)))), (am 6, .inl (cI, 16, .inl (fun j => nI (s6 j)))), (am 7, .inl (cI, 1024, .inl (fun j => nI (s1 j))))]
def mw (n : Nat) (am : Nat → Nat) (cI cL cZ : ClassId) (S : pdS) : va_W := mwx n am cI cL cZ (S 7 3) (S 7 2) (S 7 1) (S 3) (S 0) (fun j => S (8 + j / 400) (j % 400)) (S 4) (S 5) (S 6) (S 1)
section MW
variable {n : Nat} {am : Nat → Nat} {cI cL cZ : ClassId} {S : pdS}
theorem mw_g0 : (mw n am cI cL cZ S)[0]? = some (am 0, .inr (4, [.int (nI (S 7 3)), .int (nI n), .int (nI (S 7 2)), .ref (am 1), .ref (am 2), .ref (am 3), .ref (am 4), .ref (am 5), .ref (am 6), .int (nI (S 7 1)), .ref (am 7)])) := rfl
theorem mw_g1 : (mw n am cI cL cZ S)[1]? = some (am 1, .inl (cI, 4096, .inl (fun j => nI (S 3 j)))) := rfl
theorem mw_g2 : (mw n am cI cL cZ S)[2]? = some (am 2, .inl (cL, 8192, .inr (.inl (fun w => pd_lw (S 0) w)))) := rfl
theorem mw_g3 : (mw n am cI cL cZ S)[3]? = some (am 3, .inl (cI, 12800, .inl (fun j => nI (S (8 + j / 400) (j % 400))))) := rfl
theorem mw_g4 : (mw n am cI cL cZ S)[4]? = some (am 4, .inl (cI, 32, .inl (fun j => nI (S 4 j)))) := rfl
theorem mw_g5 : (mw n am cI cL cZ S)[5]? = some (am 5, .inl (cZ, 32, .inl (fun j => nI (S 5 j)))) := rfl
theorem mw_g6 : (mw n am cI cL cZ S)[6]? = some (am 6, .inl (cI, 16, .inl (fun j => nI (S 6 j)))) := rfl
theorem mw_g7 : (mw n am cI cL cZ S)[7]? = some (am 7, .inl (cI, 1024, .inl (fun j => nI (S 1 j)))) := rfl
theorem mw_sthr (v : Nat) : (mw n am cI cL cZ S).set 0 (am 0, .inr (4, [.int (nI v), .int (nI n), .int (nI (S 7 2)), .ref (am 1), .ref (am 2), .ref (am 3), .ref (am 4), .ref (am 5), .ref (am 6), .int (nI (S 7 1)), .ref (am 7)])) = mw n am cI cL cZ (pd_st S 7 3 v) := by
  have hr : (fun j => pd_st S 7 3 v (8 + j / 400) (j % 400)) = fun j => S (8 + j / 400) (j % 400) := funext fun j => by rw [pd_bk _ (by omega)]
  unfold mw
  rw [hr, pd_bk _ (show (3 : Nat) ≠ 7 by decide), pd_bk _ (show (0 : Nat) ≠ 7 by decide), pd_bk _ (show (4 : Nat) ≠ 7 by decide), pd_bk _ (show (5 : Nat) ≠ 7 by decide), pd_bk _ (show (6 : Nat) ≠ 7 by decide), pd_bk _ (show (1 : Nat) ≠ 7 by decide), pd_self, pd_ne S (b := 7) (j := 3) (v := v) (show (2 : Nat) ≠ 3 by decide), pd_ne S (b := 7) (j := 3) (v := v) (show (1 : Nat) ≠ 3 by decide)]
  rfl
theorem mw_sfed (v : Nat) : (mw n am cI cL cZ S).set 0 (am 0, .inr (4, [.int (nI (S 7 3)), .int (nI n), .int (nI v), .ref (am 1), .ref (am 2), .ref (am 3), .ref (am 4), .ref (am 5), .ref (am 6), .int (nI (S 7 1)), .ref (am 7)])) = mw n am cI cL cZ (pd_st S 7 2 v) := by
  have hr : (fun j => pd_st S 7 2 v (8 + j / 400) (j % 400)) = fun j => S (8 + j / 400) (j % 400) := funext fun j => by rw [pd_bk _ (by omega)]
  unfold mw
  rw [hr, pd_bk _ (show (3 : Nat) ≠ 7 by decide), pd_bk _ (show (0 : Nat) ≠ 7 by decide), pd_bk _ (show (4 : Nat) ≠ 7 by decide), pd_bk _ (show (5 : Nat) ≠ 7 by decide), pd_bk _ (show (6 : Nat) ≠ 7 by decide), pd_bk _ (show (1 : Nat) ≠ 7 by decide), pd_self, pd_ne S (b := 7) (j := 2) (v := v) (show (3 : Nat) ≠ 2 by decide), pd_ne S (b := 7) (j := 2) (v := v) (show (1 : Nat) ≠ 2 by decide)]
  rfl
theorem mw_scop (v : Nat) : (mw n am cI cL cZ S).set 0 (am 0, .inr (4, [.int (nI (S 7 3)), .int (nI n), .int (nI (S 7 2)), .ref (am 1), .ref (am 2), .ref (am 3), .ref (am 4), .ref (am 5), .ref (am 6), .int (nI v), .ref (am 7)])) = mw n am cI cL cZ (pd_st S 7 1 v) := by
  have hr : (fun j => pd_st S 7 1 v (8 + j / 400) (j % 400)) = fun j => S (8 + j / 400) (j % 400) := funext fun j => by rw [pd_bk _ (by omega)]
  unfold mw
  rw [hr, pd_bk _ (show (3 : Nat) ≠ 7 by decide), pd_bk _ (show (0 : Nat) ≠ 7 by decide), pd_bk _ (show (4 : Nat) ≠ 7 by decide), pd_bk _ (show (5 : Nat) ≠ 7 by decide), pd_bk _ (show (6 : Nat) ≠ 7 by decide), pd_bk _ (show (1 : Nat) ≠ 7 by decide), pd_self, pd_ne S (b := 7) (j := 1) (v := v) (show (3 : Nat) ≠ 1 by decide), pd_ne S (b := 7) (j := 1) (v := v) (show (2 : Nat) ≠ 1 by decide)]
  rfl
theorem mw_stape (k v : Nat) : (mw n am cI cL cZ S).set 1 (am 1, .inl (cI, 4096, .inl (fun j => nI (va_up (S 3) k v j)))) = mw n am cI cL cZ (pd_st S 3 k v) := by
  have hr : (fun j => pd_st S 3 k v (8 + j / 400) (j % 400)) = fun j => S (8 + j / 400) (j % 400) := funext fun j => by rw [pd_bk _ (by omega)]
  unfold mw
  rw [hr, pd_bk _ (show (7 : Nat) ≠ 3 by decide), pd_bk _ (show (0 : Nat) ≠ 3 by decide), pd_bk _ (show (4 : Nat) ≠ 3 by decide), pd_bk _ (show (5 : Nat) ≠ 3 by decide), pd_bk _ (show (6 : Nat) ≠ 3 by decide), pd_bk _ (show (1 : Nat) ≠ 3 by decide), pd_own]
  rfl
theorem mw_ssize (k v : Nat) : (mw n am cI cL cZ S).set 4 (am 4, .inl (cI, 32, .inl (fun j => nI (va_up (S 4) k v j)))) = mw n am cI cL cZ (pd_st S 4 k v) := by
  have hr : (fun j => pd_st S 4 k v (8 + j / 400) (j % 400)) = fun j => S (8 + j / 400) (j % 400) := funext fun j => by rw [pd_bk _ (by omega)]
  unfold mw
  rw [hr, pd_bk _ (show (7 : Nat) ≠ 4 by decide), pd_bk _ (show (3 : Nat) ≠ 4 by decide), pd_bk _ (show (0 : Nat) ≠ 4 by decide), pd_bk _ (show (5 : Nat) ≠ 4 by decide), pd_bk _ (show (6 : Nat) ≠ 4 by decide), pd_bk _ (show (1 : Nat) ≠ 4 by decide), pd_own]
  rfl
theorem mw_sthere (k v : Nat) : (mw n am cI cL cZ S).set 5 (am 5, .inl (cZ, 32, .inl (fun j => nI (va_up (S 5) k v j)))) = mw n am cI cL cZ (pd_st S 5 k v) := by
  have hr : (fun j => pd_st S 5 k v (8 + j / 400) (j % 400)) = fun j => S (8 + j / 400) (j % 400) := funext fun j => by rw [pd_bk _ (by omega)]
  unfold mw
  rw [hr, pd_bk _ (show (7 : Nat) ≠ 5 by decide), pd_bk _ (show (3 : Nat) ≠ 5 by decide), pd_bk _ (show (0 : Nat) ≠ 5 by decide), pd_bk _ (show (4 : Nat) ≠ 5 by decide), pd_bk _ (show (6 : Nat) ≠ 5 by decide), pd_bk _ (show (1 : Nat) ≠ 5 by decide), pd_own]
  rfl
theorem mw_slow (k v : Nat) : (mw n am cI cL cZ S).set 6 (am 6, .inl (cI, 16, .inl (fun j => nI (va_up (S 6) k v j)))) = mw n am cI cL cZ (pd_st S 6 k v) := by
  have hr : (fun j => pd_st S 6 k v (8 + j / 400) (j % 400)) = fun j => S (8 + j / 400) (j % 400) := funext fun j => by rw [pd_bk _ (by omega)]
  unfold mw
  rw [hr, pd_bk _ (show (7 : Nat) ≠ 6 by decide), pd_bk _ (show (3 : Nat) ≠ 6 by decide), pd_bk _ (show (0 : Nat) ≠ 6 by decide), pd_bk _ (show (4 : Nat) ≠ 6 by decide), pd_bk _ (show (5 : Nat) ≠ 6 by decide), pd_bk _ (show (1 : Nat) ≠ 6 by decide), pd_own]
  rfl
theorem mw_sseen (k v : Nat) : (mw n am cI cL cZ S).set 7 (am 7, .inl (cI, 1024, .inl (fun j => nI (va_up (S 1) k v j)))) = mw n am cI cL cZ (pd_st S 1 k v) := by
  have hr : (fun j => pd_st S 1 k v (8 + j / 400) (j % 400)) = fun j => S (8 + j / 400) (j % 400) := funext fun j => by rw [pd_bk _ (by omega)]
  unfold mw
  rw [hr, pd_bk _ (show (7 : Nat) ≠ 1 by decide), pd_bk _ (show (3 : Nat) ≠ 1 by decide), pd_bk _ (show (0 : Nat) ≠ 1 by decide), pd_bk _ (show (4 : Nat) ≠ 1 by decide), pd_bk _ (show (5 : Nat) ≠ 1 by decide), pd_bk _ (show (6 : Nat) ≠ 1 by decide), pd_own]
  rfl
theorem mw_srow {d k : Nat} (hk : k < 400) (v : Nat) : (mw n am cI cL cZ S).set 3 (am 3, .inl (cI, 12800, .inl (fun j => nI (va_up (fun j => S (8 + j / 400) (j % 400)) (400 * d + k) v j)))) = mw n am cI cL cZ (pd_st S (8 + d) k v) := by
  have hr : (fun j => pd_st S (8 + d) k v (8 + j / 400) (j % 400)) = va_up (fun j => S (8 + j / 400) (j % 400)) (400 * d + k) v := funext fun j => by
    rw [pd_at]
    unfold va_up
    by_cases h : j = 400 * d + k
    · rw [if_pos h, if_pos (by omega)]
    · rw [if_neg h, if_neg (by omega)]
  unfold mw
  rw [hr, pd_bk _ (show (7 : Nat) ≠ 8 + d by omega), pd_bk _ (show (3 : Nat) ≠ 8 + d by omega), pd_bk _ (show (0 : Nat) ≠ 8 + d by omega), pd_bk _ (show (4 : Nat) ≠ 8 + d by omega), pd_bk _ (show (5 : Nat) ≠ 8 + d by omega), pd_bk _ (show (6 : Nat) ≠ 8 + d by omega), pd_bk _ (show (1 : Nat) ≠ 8 + d by omega)]
  rfl
theorem mw_b0 (g : Nat → Nat) : (mw n am cI cL cZ S).set 2 (am 2, .inl (cL, 8192, .inr (.inl (fun w => pd_lw g w)))) = mw n am cI cL cZ (va_up S 0 g) := by
  have hr : (fun j => va_up S 0 g (8 + j / 400) (j % 400)) = fun j => S (8 + j / 400) (j % 400) := funext fun j => by rw [va_up_ne _ _ (by omega)]
  unfold mw
  rw [hr, va_up_self, va_up_ne _ _ (show (7 : Nat) ≠ 0 by decide), va_up_ne _ _ (show (3 : Nat) ≠ 0 by decide), va_up_ne _ _ (show (4 : Nat) ≠ 0 by decide), va_up_ne _ _ (show (5 : Nat) ≠ 0 by decide), va_up_ne _ _ (show (6 : Nat) ≠ 0 by decide), va_up_ne _ _ (show (1 : Nat) ≠ 0 by decide)]
  rfl
end MW
section MP
variable {p : Program} {l : Launch} {e : Env} {R : Room} {s : State} {m : MethodId} {args : Array Value} {below : List Frame} {meth : Method} {c : Code} {H : Heap} {locs : List Loc} {cells slots : Nat} {Q : State → Prop}
variable {cc : ByteArray} {pc : Nat} {ls : Array Slot} {rest : List Value} {D : va_G} {A : Nat → Prop} {tys : List (ClassId × FieldType)} {H0 : Heap} {n : Nat} {am : Nat → Nat} {cI cL cZ : ClassId} {S : pdS} {own : String} {index : Nat}
theorem pm_thr (hx : p.tables.exec = Jvm.exec) (hb : c.code = cc) (hg : ∀ w ∈ wsG, w.before args s = true) (hown : s.vm.findClass own = some m.cls) (hK : va_K D pwCl tys s) (hP : va_P D pwCl (mw n am cI cL cZ S) H) (hD : va_D A (mw n am cI cL cZ S)) (hS : va_S A H0 H locs) {v : Nat} (hlink : (Cond.fieldLink own index "PageDriveModel" "thrown" "I").before args s = true) (hdg : decode cc pc = .ok (.putfield index, 3)) (kk : ∀ (H1 : Heap) (locs1 : List Loc), va_P D pwCl (mw n am cI cL cZ (pd_st S 7 3 v)) H1 → va_D A (mw n am cI cL cZ (pd_st S 7 3 v)) → va_S A H0 H1 locs1 → W p l e R s m args below meth c H1 locs1 cells slots Q (F0 m (pc + 3) ls rest)) : W p l e R s m args below meth c H locs cells slots Q (F0 m pc ls (.int (nI v) :: .ref (am 0) :: rest)) := va_put (ty := .int) (C := "PageDriveModel") (T := F_MO) (N := 11) hx hb hg iw_MO t_MO tok_MO n_MO hown hK hP hD hS 0 mw_g0 rfl 0 (by decide) hlink (fun _ h => h) rfl (by decide +kernel) pw_nI rfl (Nat.le_of_ble_eq_true rfl) hdg (fun H1 locs1 hP hD hS => kk H1 locs1 (by rw [← mw_sthr v]; exact hP) (by rw [← mw_sthr v]; exact hD) hS)
theorem pm_fed (hx : p.tables.exec = Jvm.exec) (hb : c.code = cc) (hg : ∀ w ∈ wsG, w.before args s = true) (hown : s.vm.findClass own = some m.cls) (hK : va_K D pwCl tys s) (hP : va_P D pwCl (mw n am cI cL cZ S) H) (hD : va_D A (mw n am cI cL cZ S)) (hS : va_S A H0 H locs) {v : Nat} (hlink : (Cond.fieldLink own index "PageDriveModel" "fed" "I").before args s = true) (hdg : decode cc pc = .ok (.putfield index, 3)) (kk : ∀ (H1 : Heap) (locs1 : List Loc), va_P D pwCl (mw n am cI cL cZ (pd_st S 7 2 v)) H1 → va_D A (mw n am cI cL cZ (pd_st S 7 2 v)) → va_S A H0 H1 locs1 → W p l e R s m args below meth c H1 locs1 cells slots Q (F0 m (pc + 3) ls rest)) : W p l e R s m args below meth c H locs cells slots Q (F0 m pc ls (.int (nI v) :: .ref (am 0) :: rest)) := va_put (ty := .int) (C := "PageDriveModel") (T := F_MO) (N := 11) hx hb hg iw_MO t_MO tok_MO n_MO hown hK hP hD hS 0 mw_g0 rfl 2 (by decide) hlink (fun _ h => h) rfl (by decide +kernel) pw_nI rfl (Nat.le_of_ble_eq_true rfl) hdg (fun H1 locs1 hP hD hS => kk H1 locs1 (by rw [← mw_sfed v]; exact hP) (by rw [← mw_sfed v]; exact hD) hS)
theorem pm_cop (hx : p.tables.exec = Jvm.exec) (hb : c.code = cc) (hg : ∀ w ∈ wsG, w.before args s = true) (hown : s.vm.findClass own = some m.cls) (hK : va_K D pwCl tys s) (hP : va_P D pwCl (mw n am cI cL cZ S) H) (hD : va_D A (mw n am cI cL cZ S)) (hS : va_S A H0 H locs) {v : Nat} (hlink : (Cond.fieldLink own index "PageDriveModel" "copied" "I").before args s = true) (hdg : decode cc pc = .ok (.putfield index, 3)) (kk : ∀ (H1 : Heap) (locs1 : List Loc), va_P D pwCl (mw n am cI cL cZ (pd_st S 7 1 v)) H1 → va_D A (mw n am cI cL cZ (pd_st S 7 1 v)) → va_S A H0 H1 locs1 → W p l e R s m args below meth c H1 locs1 cells slots Q (F0 m (pc + 3) ls rest)) : W p l e R s m args below meth c H locs cells slots Q (F0 m pc ls (.int (nI v) :: .ref (am 0) :: rest)) := va_put (ty := .int) (C := "PageDriveModel") (T := F_MO) (N := 11) hx hb hg iw_MO t_MO tok_MO n_MO hown hK hP hD hS 0 mw_g0 rfl 9 (by decide) hlink (fun _ h => h) rfl (by decide +kernel) pw_nI rfl (Nat.le_of_ble_eq_true rfl) hdg (fun H1 locs1 hP hD hS => kk H1 locs1 (by rw [← mw_scop v]; exact hP) (by rw [← mw_scop v]; exact hD) hS)
theorem pm_tape (hx : p.tables.exec = Jvm.exec) (hb : c.code = cc) (hK : va_K D pwCl tys s) (hP : va_P D pwCl (mw n am cI cL cZ S) H) (hD : va_D A (mw n am cI cL cZ S)) (hS : va_S A H0 H locs) {k v : Nat} (hk : k < 4096) (ht : tys[0]? = some (cI, .int)) (hdg : decode cc pc = .ok (.iastore, 1)) (kk : ∀ (H1 : Heap) (locs1 : List Loc), va_P D pwCl (mw n am cI cL cZ (pd_st S 3 k v)) H1 → va_D A (mw n am cI cL cZ (pd_st S 3 k v)) → va_S A H0 H1 locs1 → W p l e R s m args below meth c H1 locs1 cells slots Q (F0 m (pc + 1) ls rest)) : W p l e R s m args below meth c H locs cells slots Q (F0 m pc ls (.int (nI v) :: .int (nI k) :: .ref (am 1) :: rest)) := va_iast hx hb hK hP hD hS 1 0 mw_g1 ht (vp_in_nI hk (by decide)) hdg (fun H1 locs1 hP hD hS => by
    rw [nI_clamp (by omega), pq_updI, mw_stape] at hP hD
    exact kk H1 locs1 hP hD hS)
theorem pm_size (hx : p.tables.exec = Jvm.exec) (hb : c.code = cc) (hK : va_K D pwCl tys s) (hP : va_P D pwCl (mw n am cI cL cZ S) H) (hD : va_D A (mw n am cI cL cZ S)) (hS : va_S A H0 H locs) {k v : Nat} (hk : k < 32) (ht : tys[0]? = some (cI, .int)) (hdg : decode cc pc = .ok (.iastore, 1)) (kk : ∀ (H1 : Heap) (locs1 : List Loc), va_P D pwCl (mw n am cI cL cZ (pd_st S 4 k v)) H1 → va_D A (mw n am cI cL cZ (pd_st S 4 k v)) → va_S A H0 H1 locs1 → W p l e R s m args below meth c H1 locs1 cells slots Q (F0 m (pc + 1) ls rest)) : W p l e R s m args below meth c H locs cells slots Q (F0 m pc ls (.int (nI v) :: .int (nI k) :: .ref (am 4) :: rest)) := va_iast hx hb hK hP hD hS 4 0 mw_g4 ht (vp_in_nI hk (by decide)) hdg (fun H1 locs1 hP hD hS => by
    rw [nI_clamp (by omega), pq_updI, mw_ssize] at hP hD
    exact kk H1 locs1 hP hD hS)
theorem pm_there (hx : p.tables.exec = Jvm.exec) (hb : c.code = cc) (hK : va_K D pwCl tys s) (hP : va_P D pwCl (mw n am cI cL cZ S) H) (hD : va_D A (mw n am cI cL cZ S)) (hS : va_S A H0 H locs) {k v : Nat} (hv : v ≤ 1) (hk : k < 32) (ht : tys[4]? = some (cZ, .boolean)) (hdg : decode cc pc = .ok (.bastore, 1)) (kk : ∀ (H1 : Heap) (locs1 : List Loc), va_P D pwCl (mw n am cI cL cZ (pd_st S 5 k v)) H1 → va_D A (mw n am cI cL cZ (pd_st S 5 k v)) → va_S A H0 H1 locs1 → W p l e R s m args below meth c H1 locs1 cells slots Q (F0 m (pc + 1) ls rest)) : W p l e R s m args below meth c H locs cells slots Q (F0 m pc ls (.int (nI v) :: .int (nI k) :: .ref (am 5) :: rest)) := va_zast hx hb hK hP hD hS 5 4 mw_g5 ht (vp_in_nI hk (by decide)) hdg (fun H1 locs1 hP hD hS => by
    rw [nI_clamp (by omega), show vp_nar .boolean (nI v) = nI v from by rcases (show v = 0 ∨ v = 1 by omega) with rfl | rfl <;> rfl, pq_updI, mw_sthere] at hP hD
    exact kk H1 locs1 hP hD hS)
theorem pm_low (hx : p.tables.exec = Jvm.exec) (hb : c.code = cc) (hK : va_K D pwCl tys s) (hP : va_P D pwCl (mw n am cI cL cZ S) H) (hD : va_D A (mw n am cI cL cZ S)) (hS : va_S A H0 H locs) {k v : Nat} (hk : k < 16) (ht : tys[0]? = some (cI, .int)) (hdg : decode cc pc = .ok (.iastore, 1)) (kk : ∀ (H1 : Heap) (locs1 : List Loc), va_P D pwCl (mw n am cI cL cZ (pd_st S 6 k v)) H1 → va_D A (mw n am cI cL cZ (pd_st S 6 k v)) → va_S A H0 H1 locs1 → W p l e R s m args below meth c H1 locs1 cells slots Q (F0 m (pc + 1) ls rest)) : W p l e R s m args below meth c H locs cells slots Q (F0 m pc ls (.int (nI v) :: .int (nI k) :: .ref (am 6) :: rest)) := va_iast hx hb hK hP hD hS 6 0 mw_g6 ht (vp_in_nI hk (by decide)) hdg (fun H1 locs1 hP hD hS => by
    rw [nI_clamp (by omega), pq_updI, mw_slow] at hP hD
    exact kk H1 locs1 hP hD hS)
theorem pm_seen (hx : p.tables.exec = Jvm.exec) (hb : c.code = cc) (hK : va_K D pwCl tys s) (hP : va_P D pwCl (mw n am cI cL cZ S) H) (hD : va_D A (mw n am cI cL cZ S)) (hS : va_S A H0 H locs) {k v : Nat} (hk : k < 1024) (ht : tys[0]? = some (cI, .int)) (hdg : decode cc pc = .ok (.iastore, 1)) (kk : ∀ (H1 : Heap) (locs1 : List Loc), va_P D pwCl (mw n am cI cL cZ (pd_st S 1 k v)) H1 → va_D A (mw n am cI cL cZ (pd_st S 1 k v)) → va_S A H0 H1 locs1 → W p l e R s m args below meth c H1 locs1 cells slots Q (F0 m (pc + 1) ls rest)) : W p l e R s m args below meth c H locs cells slots Q (F0 m pc ls (.int (nI v) :: .int (nI k) :: .ref (am 7) :: rest)) := va_iast hx hb hK hP hD hS 7 0 mw_g7 ht (vp_in_nI hk (by decide)) hdg (fun H1 locs1 hP hD hS => by
    rw [nI_clamp (by omega), pq_updI, mw_sseen] at hP hD
    exact kk H1 locs1 hP hD hS)
theorem pm_row (hx : p.tables.exec = Jvm.exec) (hb : c.code = cc) (hK : va_K D pwCl tys s) (hP : va_P D pwCl (mw n am cI cL cZ S) H) (hD : va_D A (mw n am cI cL cZ S)) (hS : va_S A H0 H locs) {i d k v : Nat} (hi : i = 400 * d + k) (hd : d < 32) (hk : k < 400) (ht : tys[0]? = some (cI, .int)) (hdg : decode cc pc = .ok (.iastore, 1)) (kk : ∀ (H1 : Heap) (locs1 : List Loc), va_P D pwCl (mw n am cI cL cZ (pd_st S (8 + d) k v)) H1 → va_D A (mw n am cI cL cZ (pd_st S (8 + d) k v)) → va_S A H0 H1 locs1 → W p l e R s m args below meth c H1 locs1 cells slots Q (F0 m (pc + 1) ls rest)) : W p l e R s m args below meth c H locs cells slots Q (F0 m pc ls (.int (nI v) :: .int (nI i) :: .ref (am 3) :: rest)) := va_iast hx hb hK hP hD hS 3 0 mw_g3 ht (vp_in_nI (by omega) (by decide)) hdg (fun H1 locs1 hP hD hS => by
    rw [nI_clamp (by omega), pq_updI, hi, mw_srow hk] at hP hD
    exact kk H1 locs1 hP hD hS)
theorem pm_rowld (hx : p.tables.exec = Jvm.exec) (hb : c.code = cc) (hK : va_K D pwCl tys s) (hP : va_P D pwCl (mw n am cI cL cZ S) H) {i d k : Nat} (hi : i = 400 * d + k) (hd : d < 32) (hk : k < 400) (ht : tys[0]? = some (cI, .int)) (hdg : decode cc pc = .ok (.iaload, 1)) (kk : W p l e R s m args below meth c H locs cells slots Q (F0 m (pc + 1) ls (.int (nI (S (8 + d) k)) :: rest))) : W p l e R s m args below meth c H locs cells slots Q (F0 m pc ls (.int (nI i) :: .ref (am 3) :: rest)) := pq_iald (f := fun j => S (8 + j / 400) (j % 400)) hx hb hK hP 3 0 mw_g3 ht (by omega) (by decide) hdg (by rw [show i / 400 = d by omega, show i % 400 = k by omega]; exact kk)
theorem pm_pgld (hx : p.tables.exec = Jvm.exec) (hb : c.code = cc) (hK : va_K D pwCl tys s) (hP : va_P D pwCl (mw n am cI cL cZ S) H) {i : Nat} (hi : i < 8192) (ht : tys[3]? = some (cL, .long)) (hdg : decode cc pc = .ok (.laload, 1)) (kk : W p l e R s m args below meth c H locs cells slots Q (F0 m (pc + 1) ls (.long (pd_lw (S 0) i) :: rest))) : W p l e R s m args below meth c H locs cells slots Q (F0 m pc ls (.int (nI i) :: .ref (am 2) :: rest)) := va_lald hx hb hK hP 2 3 mw_g2 ht (vp_in_nI hi (by decide)) hdg (by rw [nI_clamp (by omega)]; exact kk)
theorem pm_pgst (hx : p.tables.exec = Jvm.exec) (hb : c.code = cc) (hK : va_K D pwCl tys s) (hP : va_P D pwCl (mw n am cI cL cZ S) H) (hD : va_D A (mw n am cI cL cZ S)) (hS : va_S A H0 H locs) {i : Nat} {x : Int64} (g : Nat → Nat) (hi : i < 8192) (h1 : x = pd_lw g i) (h2 : ∀ w, w ≠ i → pd_lw g w = pd_lw (S 0) w) (ht : tys[3]? = some (cL, .long)) (hdg : decode cc pc = .ok (.lastore, 1)) (kk : ∀ (H1 : Heap) (locs1 : List Loc), va_P D pwCl (mw n am cI cL cZ (va_up S 0 g)) H1 → va_D A (mw n am cI cL cZ (va_up S 0 g)) → va_S A H0 H1 locs1 → W p l e R s m args below meth c H1 locs1 cells slots Q (F0 m (pc + 1) ls rest)) : W p l e R s m args below meth c H locs cells slots Q (F0 m pc ls (.long x :: .int (nI i) :: .ref (am 2) :: rest)) := va_last hx hb hK hP hD hS 2 3 mw_g2 ht (vp_in_nI hi (by decide)) hdg (fun H1 locs1 hP hD hS => by
    have e : vp_updL (fun w => pd_lw (S 0) w) (nI i).toNatClampNeg x = fun w => pd_lw g w := by
      funext w
      unfold vp_updL
      rw [nI_clamp (by omega)]
      by_cases h : w = i
      · rw [if_pos h, h1, h]
      · rw [if_neg h, h2 w h]
    rw [e, mw_b0] at hP hD
    exact kk H1 locs1 hP hD hS)
end MP
end
section
/-! THE MODEL, 1: small ones, look, fresh, write, read -/
set_option maxHeartbeats 4000000 in
set_option maxRecDepth 100000 in
/-- within -/
theorem c_MO_within (l : Launch) (dC : Nat → ClassId) (dI : Nat → Nat → Nat) (cI cB cE cL cZ : ClassId) (Wd : va_W) (x a b : Int32) (sz : Nat) : CMi l (dC, dI) (pw_ty cI cB cE cL cZ) y_MO_within w_MO_within ({ frames := 0, cells := 0, slots := 0, locals := 0 }) [.int x, .int a, .int b] (Wd) (fun _ : Unit => Wd) sz (fun r _ => (¬ x < a ∧ ¬ b < x ∧ r = nI 1) ∨ ((x < a ∨ b < x) ∧ r = nI 0)) := by
  refine Met.ofW (cc := b_MO_within) (maxL := 3) (ret := (some .boolean)) (by decide) rfl ?_
  intro p e s m args below meth c s₁ B hml hv
  obtain ⟨rfl, hsz, hP, hK, hD0⟩ := hv
  have hx := B.exec
  have hb := B.bytes
  have hret := B.returns
  have hts := atoms_spec (ws := w_MO_within) B.pre
  have hg : ∀ w ∈ wsG, w.before _ s = true := fun w h => hts w (List.mem_cons_of_mem _ h)
  have hown : s.vm.findClass "PageDriveModel" = some m.cls := findClass_of_methodNamed B.named
  have hlocks := B.notSynchronized
  subst hsz
  have hD := hD0.self (sz := s.heap.size)
  generalize hAe : va_A (Wd) s.heap.size = A at hD ⊢
  have hA : ∀ q : Nat, s.heap.size ≤ q → A q := fun q h => by rw [← hAe]; exact Or.inr h
  have hS : va_S A s.heap s.heap [] := va_S.rf
  have hl := lv_entry ([.int x, .int a, .int b]) (n := 3) (Nat.le_of_ble_eq_true rfl)
  rw [lg_entry_eq]
  generalize (lg_sl ([.int x, .int a, .int b]) ++ List.replicate (3 - (lg_sl ([.int x, .int a, .int b])).length) Slot.unset).toArray = ls at hl ⊢
  have hl : lv_has ls 3 [(0, .int x), (1, .int a), (2, .int b)] := hl
  refine lv_iload_n hx hb d_MO_within_0 rfl (lv_at hl 0 rfl) ?_
  refine lv_iload_n hx hb d_MO_within_1 rfl (lv_at hl 1 rfl) ?_
  refine lv_icmp_lt (tgt := 14) hx hb d_MO_within_2 (by decide) (fun h1 => ?_) (fun h1 => ?_)
  · refine lv_iconst (v := nI 0) hx hb d_MO_within_14 (by decide) ?_
    exact W.zret (v := (nI 0)) hx hb hret rfl (fun t9 ht9 hW9 => ⟨⟨_, (), rfl, Or.inr ⟨Or.inl h1, rfl⟩, by rw [ht9]; exact hP, va_K.moved hW9.alike hK, hD⟩, hS.F ht9⟩) hS.2.2 d_MO_within_15
  · refine lv_iload_n hx hb d_MO_within_5 rfl (lv_at hl 0 rfl) ?_
    refine lv_iload_n hx hb d_MO_within_6 rfl (lv_at hl 2 rfl) ?_
    refine lv_icmp_gt (tgt := 14) hx hb d_MO_within_7 (by decide) (fun h2 => ?_) (fun h2 => ?_)
    · refine lv_iconst (v := nI 0) hx hb d_MO_within_14 (by decide) ?_
      exact W.zret (v := (nI 0)) hx hb hret rfl (fun t9 ht9 hW9 => ⟨⟨_, (), rfl, Or.inr ⟨Or.inr h2, rfl⟩, by rw [ht9]; exact hP, va_K.moved hW9.alike hK, hD⟩, hS.F ht9⟩) hS.2.2 d_MO_within_15
    · refine lv_iconst (v := nI 1) hx hb d_MO_within_10 (by decide) ?_
      refine lv_goto (tgt := 15) hx hb d_MO_within_11 (by decide) ?_
      exact W.zret (v := (nI 1)) hx hb hret rfl (fun t9 ht9 hW9 => ⟨⟨_, (), rfl, Or.inl ⟨h1, h2, rfl⟩, by rw [ht9]; exact hP, va_K.moved hW9.alike hK, hD⟩, hS.F ht9⟩) hS.2.2 d_MO_within_15
set_option maxHeartbeats 4000000 in
set_option maxRecDepth 100000 in
/-- noFile -/
theorem c_MO_noFile (l : Launch) (dC : Nat → ClassId) (dI : Nat → Nat → Nat) (cI cB cE cL cZ : ClassId) (Wd : va_W) (x : Int32) (sz : Nat) : CMi l (dC, dI) (pw_ty cI cB cE cL cZ) y_MO_noFile w_MO_noFile ({ frames := 1, cells := 0, slots := 0, locals := 22 }) [.int x] (Wd) (fun _ : Unit => Wd) sz (fun r _ => (∃ f : Nat, f < 16 ∧ x = nI f ∧ r = nI 0) ∨ (pd_nof x ∧ r = nI 1)) := by
  refine Met.ofW (cc := b_MO_noFile) (maxL := 1) (ret := (some .boolean)) (by decide) rfl ?_
  intro p e s m args below meth c s₁ B hml hv
  obtain ⟨rfl, hsz, hP, hK, hD0⟩ := hv
  have hx := B.exec
  have hb := B.bytes
  have hret := B.returns
  have hts := atoms_spec (ws := w_MO_noFile) B.pre
  have hg : ∀ w ∈ wsG, w.before _ s = true := fun w h => hts w (List.mem_cons_of_mem _ h)
  have hown : s.vm.findClass "PageDriveModel" = some m.cls := findClass_of_methodNamed B.named
  have hlocks := B.notSynchronized
  subst hsz
  have hD := hD0.self (sz := s.heap.size)
  generalize hAe : va_A (Wd) s.heap.size = A at hD ⊢
  have hA : ∀ q : Nat, s.heap.size ≤ q → A q := fun q h => by rw [← hAe]; exact Or.inr h
  have hS : va_S A s.heap s.heap [] := va_S.rf
  have hl := lv_entry ([.int x]) (n := 1) (Nat.le_of_ble_eq_true rfl)
  rw [lg_entry_eq]
  generalize (lg_sl ([.int x]) ++ List.replicate (1 - (lg_sl ([.int x])).length) Slot.unset).toArray = ls at hl ⊢
  have hl : lv_has ls 1 [(0, .int x)] := hl
  refine lv_iload_n hx hb d_MO_noFile_0 rfl (lv_at hl 0 rfl) ?_
  refine lv_iconst (v := nI 0) hx hb d_MO_noFile_1 (by decide) ?_
  refine lv_bipush (v := nI 15) hx hb d_MO_noFile_2 (by decide) ?_
  refine pw_callip (va_runS (As := [.int x, .int (nI 0), .int (nI 15)]) (rest := []) ⟨hx, hb, hml, hown, hg⟩ (c_MO_within l dC dI cI cB cE cL cZ Wd x (nI 0) (nI 15) s.heap.size) (cwS 3 hg (gi_S (fun _ h => h) (wG_m11 (List.mem_of_getElem? (i := 27) rfl)) (wG_m11 (List.mem_of_getElem? (i := 28) rfl)) (wG_m1 (List.mem_of_getElem? (i := 6) rfl)) (wG_m11 (List.mem_of_getElem? (i := 29) rfl))) rfl rfl rfl (by decide +kernel) ⟨Nat.le_of_ble_eq_true rfl, Nat.le_of_ble_eq_true rfl⟩) (pw_ps hK hP hD [.int x, .int (nI 0), .int (nI 15)]) rfl rfl hl.1 rfl (lv_room (Nat.le_of_ble_eq_true rfl)) d_MO_noFile_4 ⟨Nat.le_of_ble_eq_true rfl, Nat.le_of_ble_eq_true rfl⟩) hD hS hA (fun r1 H locs hr hP hD hS => ?_)
  rcases hr with ⟨h1, h2, rfl⟩ | ⟨h1, rfl⟩
  · obtain ⟨j, hj1, hj2, rfl⟩ := pd_rng (a := 0) (b := 15) (by decide) (by decide) h1 h2
    refine pq_if_ne (tgt := 14) hx hb (by omega) d_MO_noFile_7 (by decide) (fun _ => ?_) (fun h9 => absurd h9 (by omega))
    refine lv_iconst (v := nI 0) hx hb d_MO_noFile_14 (by decide) ?_
    exact W.zret (v := (nI 0)) hx hb hret rfl (fun t9 ht9 hW9 => ⟨⟨_, (), rfl, Or.inl ⟨j, by omega, rfl, rfl⟩, by rw [ht9]; exact hP, va_K.moved hW9.alike hK, hD⟩, hS.F ht9⟩) hS.2.2 d_MO_noFile_15
  · refine pq_if_ne (tgt := 14) hx hb (by omega) d_MO_noFile_7 (by decide) (fun h9 => absurd h9 (by omega)) (fun _ => ?_)
    refine lv_iconst (v := nI 1) hx hb d_MO_noFile_10 (by decide) ?_
    refine lv_goto (tgt := 15) hx hb d_MO_noFile_11 (by decide) ?_
    exact W.zret (v := (nI 1)) hx hb hret rfl (fun t9 ht9 hW9 => ⟨⟨_, (), rfl, Or.inr ⟨fun f hf => h1.elim (fun q => pd_below q f (by omega) (by omega)) (fun q => pd_above (b := 15) (by decide) q f (by omega)), rfl⟩, by rw [ht9]; exact hP, va_K.moved hW9.alike hK, hD⟩, hS.F ht9⟩) hS.2.2 d_MO_noFile_15
set_option maxHeartbeats 4000000 in
set_option maxRecDepth 100000 in
/-- needed(x) -/
theorem c_MO_needed (l : Launch) (dC : Nat → ClassId) (dI : Nat → Nat → Nat) (cI cB cE cL cZ : ClassId) (Wd : va_W) (x : Nat) (hx0 : x < 1000000) (sz : Nat) : CMi l (dC, dI) (pw_ty cI cB cE cL cZ) y_MO_needed w_MO_needed ({ frames := 0, cells := 0, slots := 0, locals := 0 }) [.int (nI x)] (Wd) (fun _ : Unit => Wd) sz (fun r _ => r = nI (pd_pf x)) := by
  refine Met.ofW (cc := b_MO_needed) (maxL := 1) (ret := (some .int)) (by decide) rfl ?_
  intro p e s m args below meth c s₁ B hml hv
  obtain ⟨rfl, hsz, hP, hK, hD0⟩ := hv
  have hx := B.exec
  have hb := B.bytes
  have hret := B.returns
  have hts := atoms_spec (ws := w_MO_needed) B.pre
  have hg : ∀ w ∈ wsG, w.before _ s = true := fun w h => hts w (List.mem_cons_of_mem _ h)
  have hown : s.vm.findClass "PageDriveModel" = some m.cls := findClass_of_methodNamed B.named
  have hlocks := B.notSynchronized
  subst hsz
  have hD := hD0.self (sz := s.heap.size)
  generalize hAe : va_A (Wd) s.heap.size = A at hD ⊢
  have hA : ∀ q : Nat, s.heap.size ≤ q → A q := fun q h => by rw [← hAe]; exact Or.inr h
  have hS : va_S A s.heap s.heap [] := va_S.rf
  have hl := lv_entry ([.int (nI x)]) (n := 1) (Nat.le_of_ble_eq_true rfl)
  rw [lg_entry_eq]
  generalize (lg_sl ([.int (nI x)]) ++ List.replicate (1 - (lg_sl ([.int (nI x)])).length) Slot.unset).toArray = ls at hl ⊢
  have hl : lv_has ls 1 [(0, .int (nI x))] := hl
  refine lv_iload_n hx hb d_MO_needed_0 rfl (lv_at hl 0 rfl) ?_
  refine lv_bipush (v := nI 64) hx hb d_MO_needed_1 (by decide) ?_
  refine pq_iadd hx hb d_MO_needed_3 ?_
  refine lv_iconst (v := nI 1) hx hb d_MO_needed_4 (by decide) ?_
  refine pq_isub hx hb (by omega) d_MO_needed_5 ?_
  refine lv_bipush (v := nI 64) hx hb d_MO_needed_6 (by decide) ?_
  refine pq_idiv hx hb (by omega) (by omega) (by omega) d_MO_needed_8 ?_
  refine pq_top (y := nI (pd_pf x)) (by rw [show (x + 64 - 1) / 64 = pd_pf x by unfold pd_pf; omega]) ?_
  exact W.iret (v := (nI (pd_pf x))) hx hb hret (fun t9 ht9 hW9 => ⟨⟨_, (), rfl, rfl, by rw [ht9]; exact hP, va_K.moved hW9.alike hK, hD⟩, hS.F ht9⟩) hS.2.2 d_MO_needed_9
set_option maxHeartbeats 4000000 in
set_option maxRecDepth 100000 in
/-- thrown() -/
theorem c_MO_thrown (l : Launch) (dC : Nat → ClassId) (dI : Nat → Nat → Nat) (cI cB cE cL cZ : ClassId) (n : Nat) (am : Nat → Nat) (S : pdS) (sz : Nat) : CMi l (dC, dI) (pw_ty cI cB cE cL cZ) y_MO_thrown w_MO_thrown ({ frames := 0, cells := 0, slots := 0, locals := 0 }) [.ref (am 0)] (mw n am cI cL cZ S) (fun _ : Unit => mw n am cI cL cZ S) sz (fun r _ => r = nI (S 7 3)) := by
  refine Met.ofW (cc := b_MO_thrown) (maxL := 1) (ret := (some .int)) (by decide) rfl ?_
  intro p e s m args below meth c s₁ B hml hv
  obtain ⟨rfl, hsz, hP, hK, hD0⟩ := hv
  have hx := B.exec
  have hb := B.bytes
  have hret := B.returns
  have hts := atoms_spec (ws := w_MO_thrown) B.pre
  have hg : ∀ w ∈ wsG, w.before _ s = true := fun w h => hts w (List.mem_cons_of_mem _ h)
  have hown : s.vm.findClass "PageDriveModel" = some m.cls := findClass_of_methodNamed B.named
  have hlocks := B.notSynchronized
  subst hsz
  have hD := hD0.self (sz := s.heap.size)
  generalize hAe : va_A (mw n am cI cL cZ S) s.heap.size = A at hD ⊢
  have hA : ∀ q : Nat, s.heap.size ≤ q → A q := fun q h => by rw [← hAe]; exact Or.inr h
  have hS : va_S A s.heap s.heap [] := va_S.rf
  have hl := lv_entry ([.ref (am 0)]) (n := 1) (Nat.le_of_ble_eq_true rfl)
  rw [lg_entry_eq]
  generalize (lg_sl ([.ref (am 0)]) ++ List.replicate (1 - (lg_sl ([.ref (am 0)])).length) Slot.unset).toArray = ls at hl ⊢
  have hl : lv_has ls 1 [(0, .ref (am 0))] := hl
  refine lv_aload_n hx hb d_MO_thrown_0 rfl (lv_at hl 0 rfl) ?_
  refine va_get (C := "PageDriveModel") (T := F_MO) (N := 11) hx hb hg iw_MO hown hK hP (0) mw_g0 rfl 0 (by decide) (hg (Cond.fieldLink "PageDriveModel" 37 "PageDriveModel" "thrown" "I") (wG_m10 (List.mem_of_getElem? (i := 23) rfl))) (fun _ h9 => h9) rfl d_MO_thrown_1 ?_
  exact W.iret (v := (nI (S 7 3))) hx hb hret (fun t9 ht9 hW9 => ⟨⟨_, (), rfl, rfl, by rw [ht9]; exact hP, va_K.moved hW9.alike hK, hD⟩, hS.F ht9⟩) hS.2.2 d_MO_thrown_4
set_option maxHeartbeats 4000000 in
set_option maxRecDepth 100000 in
/-- fail(k) -/
theorem c_MO_fail (l : Launch) (dC : Nat → ClassId) (dI : Nat → Nat → Nat) (cI cB cE cL cZ : ClassId) (n : Nat) (am : Nat → Nat) (S : pdS) (k : Nat) (sz : Nat) : CMi l (dC, dI) (pw_ty cI cB cE cL cZ) y_MO_fail w_MO_fail ({ frames := 0, cells := 0, slots := 0, locals := 0 }) [.ref (am 0), .int (nI k)] (mw n am cI cL cZ S) (mw n am cI cL cZ) sz (fun r S2 => r = nI 0 ∧ S2 = pd_st S 7 3 k) := by
  refine Met.ofW (cc := b_MO_fail) (maxL := 2) (ret := (some .int)) (by decide) rfl ?_
  intro p e s m args below meth c s₁ B hml hv
  obtain ⟨rfl, hsz, hP, hK, hD0⟩ := hv
  have hx := B.exec
  have hb := B.bytes
  have hret := B.returns
  have hts := atoms_spec (ws := w_MO_fail) B.pre
  have hg : ∀ w ∈ wsG, w.before _ s = true := fun w h => hts w (List.mem_cons_of_mem _ h)
  have hown : s.vm.findClass "PageDriveModel" = some m.cls := findClass_of_methodNamed B.named
  have hlocks := B.notSynchronized
  subst hsz
  have hD := hD0.self (sz := s.heap.size)
  generalize hAe : va_A (mw n am cI cL cZ S) s.heap.size = A at hD ⊢
  have hA : ∀ q : Nat, s.heap.size ≤ q → A q := fun q h => by rw [← hAe]; exact Or.inr h
  have hS : va_S A s.heap s.heap [] := va_S.rf
  have hl := lv_entry ([.ref (am 0), .int (nI k)]) (n := 2) (Nat.le_of_ble_eq_true rfl)
  rw [lg_entry_eq]
  generalize (lg_sl ([.ref (am 0), .int (nI k)]) ++ List.replicate (2 - (lg_sl ([.ref (am 0), .int (nI k)])).length) Slot.unset).toArray = ls at hl ⊢
  have hl : lv_has ls 2 [(0, .ref (am 0)), (1, .int (nI k))] := hl
  refine lv_aload_n hx hb d_MO_fail_0 rfl (lv_at hl 0 rfl) ?_
  refine lv_iload_n hx hb d_MO_fail_1 rfl (lv_at hl 1 rfl) ?_
  refine pm_thr hx hb hg hown hK hP hD hS (hg (Cond.fieldLink "PageDriveModel" 37 "PageDriveModel" "thrown" "I") (wG_m10 (List.mem_of_getElem? (i := 23) rfl))) d_MO_fail_2 (fun H locs hP hD hS => ?_)
  generalize eS1 : pd_st S 7 3 k = S1 at hP hD
  refine lv_iconst (v := nI 0) hx hb d_MO_fail_5 (by decide) ?_
  exact W.iret (v := (nI 0)) hx hb hret (fun t9 ht9 hW9 => ⟨⟨_, _, rfl, ⟨rfl, by first | rfl | exact eS1.symm⟩, by rw [ht9]; exact hP, va_K.moved hW9.alike hK, hD⟩, hS.F ht9⟩) hS.2.2 d_MO_fail_6
set_option maxHeartbeats 4000000 in
set_option maxRecDepth 100000 in
/-- look() -/
theorem c_MO_look (l : Launch) (dC : Nat → ClassId) (dI : Nat → Nat → Nat) (cI cB cE cL cZ : ClassId) (n : Nat) (am : Nat → Nat) (S : pdS) (hv : pd_v 1024 S) (sz : Nat) : CMi l (dC, dI) (pw_ty cI cB cE cL cZ) y_MO_look w_MO_look ({ frames := 1, cells := 0, slots := 0, locals := 20 }) [.ref (am 0)] (mw n am cI cL cZ S) (mw n am cI cL cZ) sz (fun r S2 => r = nI (pd_nz (pd_ct S) 1024) ∧ (∀ q, q < 1024 → S2 1 q = pd_ct S q) ∧ ∀ b, b ≠ 1 → S2 b = S b) := by
  refine Met.ofW (cc := b_MO_look) (maxL := 3) (ret := (some .int)) (by decide) rfl ?_
  intro p e s m args below meth c s₁ B hml hv
  obtain ⟨rfl, hsz, hP, hK, hD0⟩ := hv
  have hx := B.exec
  have hb := B.bytes
  have hret := B.returns
  have hts := atoms_spec (ws := w_MO_look) B.pre
  have hg : ∀ w ∈ wsG, w.before _ s = true := fun w h => hts w (List.mem_cons_of_mem _ h)
  have hown : s.vm.findClass "PageDriveModel" = some m.cls := findClass_of_methodNamed B.named
  have hlocks := B.notSynchronized
  subst hsz
  have hD := hD0.self (sz := s.heap.size)
  generalize hAe : va_A (mw n am cI cL cZ S) s.heap.size = A at hD ⊢
  have hA : ∀ q : Nat, s.heap.size ≤ q → A q := fun q h => by rw [← hAe]; exact Or.inr h
  have hS : va_S A s.heap s.heap [] := va_S.rf
  have hl := lv_entry ([.ref (am 0)]) (n := 3) (Nat.le_of_ble_eq_true rfl)
  rw [lg_entry_eq]
  generalize (lg_sl ([.ref (am 0)]) ++ List.replicate (3 - (lg_sl ([.ref (am 0)])).length) Slot.unset).toArray = ls at hl ⊢
  have hl : lv_has ls 3 [(0, .ref (am 0))] := hl
  refine lv_iconst (v := nI 0) hx hb d_MO_look_0 (by decide) ?_
  refine lv_istore_n (lv' := [(1, .int (nI 0)), (0, .ref (am 0))]) hx hb d_MO_look_1 rfl hl (by decide) rfl (fun ls hl => ?_)
  refine pw_loop (fun mm H locs ls => ∃ (T : pdS) (k : Nat), mm = 1024 - k ∧ k ≤ 1024 ∧ (∀ b, b ≠ 1 → T b = S b) ∧ (∀ q, q < k → T 1 q = 0) ∧ va_P (dC, dI) pwCl (mw n am cI cL cZ T) H ∧ va_D A (mw n am cI cL cZ T) ∧ va_S A s.heap H locs ∧ lv_has ls 3 [(1, .int (nI k)), (0, .ref (am 0))]) ?_ _ _ _ _ ⟨S, 0, rfl, by omega, fun _ _ => rfl, fun q h => by omega, hP, hD, hS, hl⟩
  rintro mm H locs ls ⟨T, k, hmm, hk, hT, hz, hP, hD, hS, hl⟩ ih
  refine lv_iload_n hx hb d_MO_look_2 rfl (lv_at hl 0 rfl) ?_
  refine lv_sipush (v := nI 1024) hx hb d_MO_look_3 (by decide) ?_
  refine pq_icmp_ge (tgt := 22) hx hb (by omega) (by omega) d_MO_look_6 (by decide) (fun h1 => ?_) (fun h1 => ?_)
  · have hz : ∀ q, q < 1024 → T 1 q = 0 := fun q hq => hz q (by omega)
    refine lv_iconst (v := nI 0) hx hb d_MO_look_22 (by decide) ?_
    refine lv_istore_n (lv' := [(1, .int (nI 0)), (0, .ref (am 0))]) hx hb d_MO_look_23 rfl hl (by decide) rfl (fun ls hl => ?_)
    refine pw_loop (fun mm H locs ls => ∃ (T : pdS) (d : Nat), mm = 32 - d ∧ d ≤ 32 ∧ (∀ b, b ≠ 1 → T b = S b) ∧ (∀ q, q < 1024 → T 1 q = pd_sm (fun c => pd_rc (S (8 + c)) q (pd_pf (S 4 c))) d) ∧ va_P (dC, dI) pwCl (mw n am cI cL cZ T) H ∧ va_D A (mw n am cI cL cZ T) ∧ va_S A s.heap H locs ∧ lv_has ls 3 [(1, .int (nI d)), (0, .ref (am 0))]) ?_ _ _ _ _ ⟨T, 0, rfl, by omega, hT, hz, hP, hD, hS, hl⟩
    clear ih hP hD hS hl hz hT hmm hk h1
    rintro mm2 H locs ls ⟨T, d, hmm2, hd, hT, hc, hP, hD, hS, hl⟩ ih
    refine lv_iload_n hx hb d_MO_look_24 rfl (lv_at hl 0 rfl) ?_
    refine lv_bipush (v := nI 32) hx hb d_MO_look_25 (by decide) ?_
    refine pq_icmp_ge (tgt := 78) hx hb (by omega) (by omega) d_MO_look_27 (by decide) (fun h2 => ?_) (fun h2 => ?_)
    · have hct : ∀ q, q < 1024 → T 1 q = pd_ct S q := fun q hq => by rw [hc q hq, show d = 32 by omega]; rfl
      refine lv_iconst (v := nI 0) hx hb d_MO_look_78 (by decide) ?_
      refine lv_istore_n (lv' := [(1, .int (nI 0)), (0, .ref (am 0))]) hx hb d_MO_look_79 rfl hl (by decide) rfl (fun ls hl => ?_)
      refine lv_iconst (v := nI 0) hx hb d_MO_look_80 (by decide) ?_
      refine lv_istore_n (lv' := [(2, .int (nI 0)), (1, .int (nI 0)), (0, .ref (am 0))]) hx hb d_MO_look_81 rfl hl (by decide) rfl (fun ls hl => ?_)
      refine pw_loop (fun mm H locs ls => ∃ k : Nat, mm = 1024 - k ∧ k ≤ 1024 ∧ va_P (dC, dI) pwCl (mw n am cI cL cZ T) H ∧ va_D A (mw n am cI cL cZ T) ∧ va_S A s.heap H locs ∧ lv_has ls 3 [(2, .int (nI k)), (1, .int (nI (pd_nz (pd_ct S) k))), (0, .ref (am 0))]) ?_ _ _ _ _ ⟨0, rfl, by omega, hP, hD, hS, hl⟩
      rintro mm3 H locs ls ⟨k, hmm3, hk, hP, hD, hS, hl⟩ ih
      refine lv_iload_n hx hb d_MO_look_82 rfl (lv_at hl 0 rfl) ?_
      refine lv_sipush (v := nI 1024) hx hb d_MO_look_83 (by decide) ?_
      refine pq_icmp_ge (tgt := 112) hx hb (by omega) (by omega) d_MO_look_86 (by decide) (fun h3 => ?_) (fun h3 => ?_)
      · have hk16 : k = 1024 := by omega
        subst hk16
        refine lv_iload_n hx hb d_MO_look_112 rfl (lv_at hl 1 rfl) ?_
        exact W.iret (v := (nI (pd_nz (pd_ct S) 1024))) hx hb hret (fun t9 ht9 hW9 => ⟨⟨_, T, rfl, ⟨rfl, hct, hT⟩, by rw [ht9]; exact hP, va_K.moved hW9.alike hK, hD⟩, hS.F ht9⟩) hS.2.2 d_MO_look_113
      · have hbd := pd_ct_bd hv k
        have hTk := hct k h3
        refine lv_iload_n hx hb d_MO_look_89 rfl (lv_at hl 1 rfl) ?_
        refine lv_aload_n hx hb d_MO_look_90 rfl (lv_at hl 2 rfl) ?_
        refine va_get (C := "PageDriveModel") (T := F_MO) (N := 11) hx hb hg iw_MO hown hK hP (0) mw_g0 rfl 10 (by decide) (hg (Cond.fieldLink "PageDriveModel" 30 "PageDriveModel" "seen" "[I") (wG_m10 (List.mem_of_getElem? (i := 33) rfl))) (fun _ h9 => h9) rfl d_MO_look_91 ?_
        refine lv_iload_n hx hb d_MO_look_94 rfl (lv_at hl 0 rfl) ?_
        refine pq_iald hx hb hK hP 7 0 mw_g7 rfl (by omega) (by omega) d_MO_look_95 ?_
        refine pq_if_le (tgt := 103) hx hb (by omega) d_MO_look_96 (by decide) (fun h4 => ?_) (fun h4 => ?_)
        · refine lv_iconst (v := nI 0) hx hb d_MO_look_103 (by decide) ?_
          refine pq_iadd hx hb d_MO_look_104 ?_
          refine lv_istore_n (lv' := [(1, .int (nI ((pd_nz (pd_ct S) k) + 0))), (2, .int (nI k)), (0, .ref (am 0))]) hx hb d_MO_look_105 rfl hl (by decide) rfl (fun ls hl => ?_)
          refine lv_iinc (v := (nI (k + 1))) (lv' := [(2, .int (nI (k + 1))), (1, .int (nI ((pd_nz (pd_ct S) k) + 0))), (0, .ref (am 0))]) hx hb d_MO_look_106 hl (k := 1) rfl (pq_inc _) (by decide) rfl (fun ls hl => ?_)
          refine lv_goto (tgt := 82) hx hb d_MO_look_109 (by decide) ?_
          exact ih _ _ _ _ (by omega) ⟨k + 1, rfl, by omega, hP, hD, hS, by simp only [pd_nz]; rw [if_neg (by omega)]; exact hl⟩
        · refine lv_iconst (v := nI 1) hx hb d_MO_look_99 (by decide) ?_
          refine lv_goto (tgt := 104) hx hb d_MO_look_100 (by decide) ?_
          refine pq_iadd hx hb d_MO_look_104 ?_
          refine lv_istore_n (lv' := [(1, .int (nI ((pd_nz (pd_ct S) k) + 1))), (2, .int (nI k)), (0, .ref (am 0))]) hx hb d_MO_look_105 rfl hl (by decide) rfl (fun ls hl => ?_)
          refine lv_iinc (v := (nI (k + 1))) (lv' := [(2, .int (nI (k + 1))), (1, .int (nI ((pd_nz (pd_ct S) k) + 1))), (0, .ref (am 0))]) hx hb d_MO_look_106 hl (k := 1) rfl (pq_inc _) (by decide) rfl (fun ls hl => ?_)
          refine lv_goto (tgt := 82) hx hb d_MO_look_109 (by decide) ?_
          exact ih _ _ _ _ (by omega) ⟨k + 1, rfl, by omega, hP, hD, hS, by simp only [pd_nz]; rw [if_pos (by omega)]; exact hl⟩
    · have hs4 := (hv.1 d h2).1
      have h400 : pd_pf (S 4 d) ≤ 400 := by unfold pd_pf; omega
      refine lv_iconst (v := nI 0) hx hb d_MO_look_30 (by decide) ?_
      refine lv_istore_n (lv' := [(2, .int (nI 0)), (1, .int (nI d)), (0, .ref (am 0))]) hx hb d_MO_look_31 rfl hl (by decide) rfl (fun ls hl => ?_)
      refine pw_loop (fun mm H locs ls => ∃ (T : pdS) (k : Nat), mm = pd_pf (S 4 d) - k ∧ k ≤ pd_pf (S 4 d) ∧ (∀ b, b ≠ 1 → T b = S b) ∧ (∀ q, q < 1024 → T 1 q = pd_sm (fun c => pd_rc (S (8 + c)) q (pd_pf (S 4 c))) d + pd_rc (S (8 + d)) q k) ∧ va_P (dC, dI) pwCl (mw n am cI cL cZ T) H ∧ va_D A (mw n am cI cL cZ T) ∧ va_S A s.heap H locs ∧ lv_has ls 3 [(2, .int (nI k)), (1, .int (nI d)), (0, .ref (am 0))]) ?_ _ _ _ _ ⟨T, 0, rfl, by omega, hT, hc, hP, hD, hS, hl⟩
      clear hP hD hS hl hc hT
      rintro mm3 H locs ls ⟨T, k, hmm3, hk, hT, hc, hP, hD, hS, hl⟩ ih2
      have hT4 : T 4 d = S 4 d := by rw [hT 4 (by decide)]
      have hTr : T (8 + d) = S (8 + d) := hT _ (by omega)
      refine lv_iload_n hx hb d_MO_look_32 rfl (lv_at hl 0 rfl) ?_
      refine lv_aload_n hx hb d_MO_look_33 rfl (lv_at hl 2 rfl) ?_
      refine va_get (C := "PageDriveModel") (T := F_MO) (N := 11) hx hb hg iw_MO hown hK hP (0) mw_g0 rfl 6 (by decide) (hg (Cond.fieldLink "PageDriveModel" 20 "PageDriveModel" "sizes" "[I") (wG_m10 (List.mem_of_getElem? (i := 29) rfl))) (fun _ h9 => h9) rfl d_MO_look_34 ?_
      refine lv_iload_n hx hb d_MO_look_37 rfl (lv_at hl 1 rfl) ?_
      refine pq_iald hx hb hK hP 4 0 mw_g4 rfl (by omega) (by omega) d_MO_look_38 ?_
      refine pw_callip (va_runS (As := [.int (nI (T 4 d))]) (rest := [.int (nI k)]) ⟨hx, hb, hml, hown, hg⟩ (c_MO_needed l dC dI cI cB cE cL cZ (mw n am cI cL cZ T) (T 4 d) (by omega) H.size) (cwS 1 hg (gi_S (fun _ h => h) (wG_m12 (List.mem_of_getElem? (i := 4) rfl)) (wG_m12 (List.mem_of_getElem? (i := 5) rfl)) (wG_m1 (List.mem_of_getElem? (i := 6) rfl)) (wG_m12 (List.mem_of_getElem? (i := 6) rfl))) rfl rfl rfl (by decide +kernel) ⟨Nat.le_of_ble_eq_true rfl, Nat.le_of_ble_eq_true rfl⟩) (pw_ps hK hP hD [.int (nI (T 4 d))]) rfl rfl hl.1 rfl (lv_room (Nat.le_of_ble_eq_true rfl)) d_MO_look_39 ⟨Nat.le_of_ble_eq_true rfl, Nat.le_of_ble_eq_true rfl⟩) hD hS hA (fun r1 H locs hr hP hD hS => ?_)
      subst hr
      refine pq_top (y := nI (pd_pf (S 4 d))) (by rw [hT4]) ?_
      refine pq_icmp_ge (tgt := 72) hx hb (by omega) (by omega) d_MO_look_42 (by decide) (fun h3 => ?_) (fun h3 => ?_)
      · have hkk : k = pd_pf (S 4 d) := by omega
        subst hkk
        refine lv_iinc (v := (nI (d + 1))) (lv' := [(1, .int (nI (d + 1))), (2, .int (nI (pd_pf (S 4 d)))), (0, .ref (am 0))]) hx hb d_MO_look_72 hl (k := 1) rfl (pq_inc _) (by decide) rfl (fun ls hl => ?_)
        refine lv_goto (tgt := 24) hx hb d_MO_look_75 (by decide) ?_
        exact ih _ _ _ _ (by omega) ⟨T, d + 1, rfl, by omega, hT, fun q hq => hc q hq, hP, hD, hS, lv_sub hl [0, 2] rfl⟩
      · have hpg := hv.2.1 d k h2 h3
        refine lv_aload_n hx hb d_MO_look_45 rfl (lv_at hl 2 rfl) ?_
        refine va_get (C := "PageDriveModel") (T := F_MO) (N := 11) hx hb hg iw_MO hown hK hP (0) mw_g0 rfl 10 (by decide) (hg (Cond.fieldLink "PageDriveModel" 30 "PageDriveModel" "seen" "[I") (wG_m10 (List.mem_of_getElem? (i := 33) rfl))) (fun _ h9 => h9) rfl d_MO_look_46 ?_
        refine lv_aload_n hx hb d_MO_look_49 rfl (lv_at hl 2 rfl) ?_
        refine va_get (C := "PageDriveModel") (T := F_MO) (N := 11) hx hb hg iw_MO hown hK hP (0) mw_g0 rfl 5 (by decide) (hg (Cond.fieldLink "PageDriveModel" 17 "PageDriveModel" "rows" "[I") (wG_m10 (List.mem_of_getElem? (i := 28) rfl))) (fun _ h9 => h9) rfl d_MO_look_50 ?_
        refine lv_sipush (v := nI 400) hx hb d_MO_look_53 (by decide) ?_
        refine lv_iload_n hx hb d_MO_look_56 rfl (lv_at hl 1 rfl) ?_
        refine pq_imul hx hb d_MO_look_57 ?_
        refine lv_iload_n hx hb d_MO_look_58 rfl (lv_at hl 0 rfl) ?_
        refine pq_iadd hx hb d_MO_look_59 ?_
        refine pm_rowld (d := d) (k := k) hx hb hK hP (by omega) (by omega) (by omega) rfl d_MO_look_60 ?_
        refine pq_top (y := nI (S (8 + d) k)) (by rw [hTr]) ?_
        refine lv_dup2_11 hx hb d_MO_look_61 rfl rfl ?_
        refine pq_iald hx hb hK hP 7 0 mw_g7 rfl (by omega) (by omega) d_MO_look_62 ?_
        refine lv_iconst (v := nI 1) hx hb d_MO_look_63 (by decide) ?_
        refine pq_iadd hx hb d_MO_look_64 ?_
        refine pm_seen hx hb hK hP hD hS (by omega) rfl d_MO_look_65 (fun H locs hP hD hS => ?_)
        generalize eS2 : pd_st T 1 (S (8 + d) k) ((T 1 (S (8 + d) k)) + 1) = S2 at hP hD
        refine lv_iinc (v := (nI (k + 1))) (lv' := [(2, .int (nI (k + 1))), (1, .int (nI d)), (0, .ref (am 0))]) hx hb d_MO_look_66 hl (k := 0) rfl (pq_inc _) (by decide) rfl (fun ls hl => ?_)
        refine lv_goto (tgt := 32) hx hb d_MO_look_69 (by decide) ?_
        exact ih2 _ _ _ _ (by omega) ⟨_, k + 1, rfl, by omega, fun b hb => by rw [← eS2, pd_bk _ hb, hT b hb], fun q hq => by
          by_cases hqp : q = S (8 + d) k
          · subst hqp
            rw [← eS2, pd_self, hc _ hq]
            simp only [pd_rc, if_true]
            omega
          · rw [← eS2, pd_ne _ hqp, hc q hq]
            simp only [pd_rc]
            rw [if_neg (fun z => hqp z.symm)]
            omega, hP, hD, hS, hl⟩
  · refine lv_aload_n hx hb d_MO_look_9 rfl (lv_at hl 1 rfl) ?_
    refine va_get (C := "PageDriveModel") (T := F_MO) (N := 11) hx hb hg iw_MO hown hK hP (0) mw_g0 rfl 10 (by decide) (hg (Cond.fieldLink "PageDriveModel" 30 "PageDriveModel" "seen" "[I") (wG_m10 (List.mem_of_getElem? (i := 33) rfl))) (fun _ h9 => h9) rfl d_MO_look_10 ?_
    refine lv_iload_n hx hb d_MO_look_13 rfl (lv_at hl 0 rfl) ?_
    refine lv_iconst (v := nI 0) hx hb d_MO_look_14 (by decide) ?_
    refine pm_seen hx hb hK hP hD hS (by omega) rfl d_MO_look_15 (fun H locs hP hD hS => ?_)
    generalize eS3 : pd_st T 1 k 0 = S3 at hP hD
    refine lv_iinc (v := (nI (k + 1))) (lv' := [(1, .int (nI (k + 1))), (0, .ref (am 0))]) hx hb d_MO_look_16 hl (k := 0) rfl (pq_inc _) (by decide) rfl (fun ls hl => ?_)
    refine lv_goto (tgt := 2) hx hb d_MO_look_19 (by decide) ?_
    exact ih _ _ _ _ (by omega) ⟨_, k + 1, rfl, by omega, fun b hb => by rw [← eS3, pd_bk _ hb, hT b hb], fun q hq => by rw [← eS3, pd_at]; by_cases hqk : q = k; rw [if_pos ⟨rfl, hqk⟩]; rw [if_neg (fun z => hqk z.2)]; exact hz q (by omega), hP, hD, hS, hl⟩
set_option maxHeartbeats 4000000 in
set_option maxRecDepth 100000 in
/-- fresh() -/
theorem c_MO_fresh (l : Launch) (dC : Nat → ClassId) (dI : Nat → Nat → Nat) (cI cB cE cL cZ : ClassId) (n : Nat) (am : Nat → Nat) (S : pdS) (hb1 : ∀ q, q < 1024 → S 1 q < 1000000) (hfr : pd_nz (S 1) 1024 < 1024) (sz : Nat) : CMi l (dC, dI) (pw_ty cI cB cE cL cZ) y_MO_fresh w_MO_fresh ({ frames := 0, cells := 0, slots := 0, locals := 0 }) [.ref (am 0)] (mw n am cI cL cZ S) (mw n am cI cL cZ) sz (fun r S2 => ∃ q, q < 1024 ∧ S 1 q = 0 ∧ r = nI q ∧ S2 = pd_st S 1 q 1) := by
  refine Met.ofW (cc := b_MO_fresh) (maxL := 2) (ret := (some .int)) (by decide) rfl ?_
  intro p e s m args below meth c s₁ B hml hv
  obtain ⟨rfl, hsz, hP, hK, hD0⟩ := hv
  have hx := B.exec
  have hb := B.bytes
  have hret := B.returns
  have hts := atoms_spec (ws := w_MO_fresh) B.pre
  have hg : ∀ w ∈ wsG, w.before _ s = true := fun w h => hts w (List.mem_cons_of_mem _ h)
  have hown : s.vm.findClass "PageDriveModel" = some m.cls := findClass_of_methodNamed B.named
  have hlocks := B.notSynchronized
  subst hsz
  have hD := hD0.self (sz := s.heap.size)
  generalize hAe : va_A (mw n am cI cL cZ S) s.heap.size = A at hD ⊢
  have hA : ∀ q : Nat, s.heap.size ≤ q → A q := fun q h => by rw [← hAe]; exact Or.inr h
  have hS : va_S A s.heap s.heap [] := va_S.rf
  have hl := lv_entry ([.ref (am 0)]) (n := 2) (Nat.le_of_ble_eq_true rfl)
  rw [lg_entry_eq]
  generalize (lg_sl ([.ref (am 0)]) ++ List.replicate (2 - (lg_sl ([.ref (am 0)])).length) Slot.unset).toArray = ls at hl ⊢
  have hl : lv_has ls 2 [(0, .ref (am 0))] := hl
  obtain ⟨q0, hq0, hq1⟩ := pd_nz_free hfr
  refine lv_iconst (v := nI 0) hx hb d_MO_fresh_0 (by decide) ?_
  refine lv_istore_n (lv' := [(1, .int (nI 0)), (0, .ref (am 0))]) hx hb d_MO_fresh_1 rfl hl (by decide) rfl (fun ls hl => ?_)
  refine pw_loop (fun mm H locs ls => ∃ k : Nat, mm = q0 - k ∧ k ≤ q0 ∧ va_P (dC, dI) pwCl (mw n am cI cL cZ S) H ∧ va_D A (mw n am cI cL cZ S) ∧ va_S A s.heap H locs ∧ lv_has ls 2 [(1, .int (nI k)), (0, .ref (am 0))]) ?_ _ _ _ _ ⟨0, rfl, by omega, hP, hD, hS, hl⟩
  rintro mm H locs ls ⟨k, hmm, hk, hP, hD, hS, hl⟩ ih
  have hbk := hb1 k (by omega)
  refine lv_aload_n hx hb d_MO_fresh_2 rfl (lv_at hl 1 rfl) ?_
  refine va_get (C := "PageDriveModel") (T := F_MO) (N := 11) hx hb hg iw_MO hown hK hP (0) mw_g0 rfl 10 (by decide) (hg (Cond.fieldLink "PageDriveModel" 30 "PageDriveModel" "seen" "[I") (wG_m10 (List.mem_of_getElem? (i := 33) rfl))) (fun _ h9 => h9) rfl d_MO_fresh_3 ?_
  refine lv_iload_n hx hb d_MO_fresh_6 rfl (lv_at hl 0 rfl) ?_
  refine pq_iald hx hb hK hP 7 0 mw_g7 rfl (by omega) (by omega) d_MO_fresh_7 ?_
  refine pq_if_le (tgt := 17) hx hb (by omega) d_MO_fresh_8 (by decide) (fun h1 => ?_) (fun h1 => ?_)
  · refine lv_aload_n hx hb d_MO_fresh_17 rfl (lv_at hl 1 rfl) ?_
    refine va_get (C := "PageDriveModel") (T := F_MO) (N := 11) hx hb hg iw_MO hown hK hP (0) mw_g0 rfl 10 (by decide) (hg (Cond.fieldLink "PageDriveModel" 30 "PageDriveModel" "seen" "[I") (wG_m10 (List.mem_of_getElem? (i := 33) rfl))) (fun _ h9 => h9) rfl d_MO_fresh_18 ?_
    refine lv_iload_n hx hb d_MO_fresh_21 rfl (lv_at hl 0 rfl) ?_
    refine lv_iconst (v := nI 1) hx hb d_MO_fresh_22 (by decide) ?_
    refine pm_seen hx hb hK hP hD hS (by omega) rfl d_MO_fresh_23 (fun H locs hP hD hS => ?_)
    generalize eS1 : pd_st S 1 k 1 = S1 at hP hD
    refine lv_iload_n hx hb d_MO_fresh_24 rfl (lv_at hl 0 rfl) ?_
    exact W.iret (v := (nI k)) hx hb hret (fun t9 ht9 hW9 => ⟨⟨_, _, rfl, ⟨k, by omega, h1, rfl, by first | rfl | exact eS1.symm⟩, by rw [ht9]; exact hP, va_K.moved hW9.alike hK, hD⟩, hS.F ht9⟩) hS.2.2 d_MO_fresh_25
  · have hne : k ≠ q0 := fun q => by rw [q] at h1; omega
    refine lv_iinc (v := (nI (k + 1))) (lv' := [(1, .int (nI (k + 1))), (0, .ref (am 0))]) hx hb d_MO_fresh_11 hl (k := 0) rfl (pq_inc _) (by decide) rfl (fun ls hl => ?_)
    refine lv_goto (tgt := 2) hx hb d_MO_fresh_14 (by decide) ?_
    exact ih _ _ _ _ (by omega) ⟨k + 1, rfl, by omega, hP, hD, hS, hl⟩
set_option maxHeartbeats 4000000 in
set_option maxRecDepth 100000 in
/-- write(page, i, b) -/
theorem c_MO_write (l : Launch) (dC : Nat → ClassId) (dI : Nat → Nat → Nat) (cI cB cE cL cZ : ClassId) (n : Nat) (am : Nat → Nat) (S : pdS) (pg i b : Nat) (hp : pg < 1024) (hi : i < 64) (hb0 : b < 256) (h0 : ∀ j, S 0 j < 256) (sz : Nat) : CMv l (dC, dI) (pw_ty cI cB cE cL cZ) y_MO_write w_MO_write ({ frames := 0, cells := 0, slots := 0, locals := 0 }) [.ref (am 0), .int (nI pg), .int (nI i), .int (nI b)] (mw n am cI cL cZ S) (mw n am cI cL cZ) sz (fun S2 => S2 = pd_st S 0 (64 * pg + i) b) := by
  refine Met.ofW (cc := b_MO_write) (maxL := 6) (ret := none) (by decide) rfl ?_
  intro p e s m args below meth c s₁ B hml hv
  obtain ⟨rfl, hsz, hP, hK, hD0⟩ := hv
  have hx := B.exec
  have hb := B.bytes
  have hret := B.returns
  have hts := atoms_spec (ws := w_MO_write) B.pre
  have hg : ∀ w ∈ wsG, w.before _ s = true := fun w h => hts w (List.mem_cons_of_mem _ h)
  have hown : s.vm.findClass "PageDriveModel" = some m.cls := findClass_of_methodNamed B.named
  have hlocks := B.notSynchronized
  subst hsz
  have hD := hD0.self (sz := s.heap.size)
  generalize hAe : va_A (mw n am cI cL cZ S) s.heap.size = A at hD ⊢
  have hA : ∀ q : Nat, s.heap.size ≤ q → A q := fun q h => by rw [← hAe]; exact Or.inr h
  have hS : va_S A s.heap s.heap [] := va_S.rf
  have hl := lv_entry ([.ref (am 0), .int (nI pg), .int (nI i), .int (nI b)]) (n := 6) (Nat.le_of_ble_eq_true rfl)
  rw [lg_entry_eq]
  generalize (lg_sl ([.ref (am 0), .int (nI pg), .int (nI i), .int (nI b)]) ++ List.replicate (6 - (lg_sl ([.ref (am 0), .int (nI pg), .int (nI i), .int (nI b)])).length) Slot.unset).toArray = ls at hl ⊢
  have hl : lv_has ls 6 [(0, .ref (am 0)), (1, .int (nI pg)), (2, .int (nI i)), (3, .int (nI b))] := hl
  refine lv_bipush (v := nI 8) hx hb d_MO_write_0 (by decide) ?_
  refine lv_iload_n hx hb d_MO_write_2 rfl (lv_at hl 1 rfl) ?_
  refine pq_imul hx hb d_MO_write_3 ?_
  refine lv_iload_n hx hb d_MO_write_4 rfl (lv_at hl 2 rfl) ?_
  refine lv_bipush (v := nI 8) hx hb d_MO_write_5 (by decide) ?_
  refine pq_idiv hx hb (by omega) (by omega) (by omega) d_MO_write_7 ?_
  refine pq_iadd hx hb d_MO_write_8 ?_
  refine lv_istore (lv' := [(4, .int (nI ((8 * pg) + (i / 8)))), (0, .ref (am 0)), (1, .int (nI pg)), (2, .int (nI i)), (3, .int (nI b))]) hx hb d_MO_write_9 hl (by decide) rfl (fun ls hl => ?_)
  refine lv_bipush (v := nI 8) hx hb d_MO_write_11 (by decide) ?_
  refine lv_iload_n hx hb d_MO_write_13 rfl (lv_at hl 3 rfl) ?_
  refine lv_bipush (v := nI 8) hx hb d_MO_write_14 (by decide) ?_
  refine pq_irem hx hb (by omega) (by omega) (by omega) d_MO_write_16 ?_
  refine pq_imul hx hb d_MO_write_17 ?_
  refine lv_istore (lv' := [(5, .int (nI (8 * (i % 8)))), (4, .int (nI ((8 * pg) + (i / 8)))), (0, .ref (am 0)), (1, .int (nI pg)), (2, .int (nI i)), (3, .int (nI b))]) hx hb d_MO_write_18 hl (by decide) rfl (fun ls hl => ?_)
  refine lv_aload_n hx hb d_MO_write_20 rfl (lv_at hl 2 rfl) ?_
  refine va_get (C := "PageDriveModel") (T := F_MO) (N := 11) hx hb hg iw_MO hown hK hP (0) mw_g0 rfl 4 (by decide) (hg (Cond.fieldLink "PageDriveModel" 13 "PageDriveModel" "pages" "[J") (wG_m10 (List.mem_of_getElem? (i := 27) rfl))) (fun _ h9 => h9) rfl d_MO_write_21 ?_
  refine lv_iload hx hb d_MO_write_24 (lv_at hl 1 rfl) ?_
  refine lv_aload_n hx hb d_MO_write_26 rfl (lv_at hl 2 rfl) ?_
  refine va_get (C := "PageDriveModel") (T := F_MO) (N := 11) hx hb hg iw_MO hown hK hP (0) mw_g0 rfl 4 (by decide) (hg (Cond.fieldLink "PageDriveModel" 13 "PageDriveModel" "pages" "[J") (wG_m10 (List.mem_of_getElem? (i := 27) rfl))) (fun _ h9 => h9) rfl d_MO_write_27 ?_
  refine lv_iload hx hb d_MO_write_30 (lv_at hl 1 rfl) ?_
  refine pm_pgld hx hb hK hP (by omega) rfl d_MO_write_32 ?_
  refine lv_ldc2 hx hb hown (hg (Cond.constantLong "PageDriveModel" 51 (255)) (wG_m11 (List.mem_of_getElem? (i := 33) rfl))) d_MO_write_33 ?_
  refine lv_iload hx hb d_MO_write_36 (lv_at hl 0 rfl) ?_
  refine lv_lshl hx hb d_MO_write_38 rfl ?_
  refine lv_ldc2 hx hb hown (hg (Cond.constantLong "PageDriveModel" 56 (-1)) (wG_m12 (List.mem_of_getElem? (i := 13) rfl))) d_MO_write_39 ?_
  refine lv_lxor hx hb d_MO_write_42 ?_
  refine lv_land hx hb d_MO_write_43 ?_
  refine lv_iload_n hx hb d_MO_write_44 rfl (lv_at hl 5 rfl) ?_
  refine lv_i2l hx hb d_MO_write_45 rfl ?_
  refine lv_iload hx hb d_MO_write_46 (lv_at hl 0 rfl) ?_
  refine lv_lshl hx hb d_MO_write_48 rfl ?_
  refine lv_lor hx hb d_MO_write_49 ?_
  refine pm_pgst (g := va_up (S 0) (8 * (8 * pg + i / 8) + i % 8) b) hx hb hK hP hD hS (by omega) (pd_lw_in h0 _ (by omega) hb0) (fun w hw => pd_lw_out (by omega) hw) rfl d_MO_write_50 (fun H locs hP hD hS => ?_)
  generalize eS1 : va_up S 0 (va_up (S 0) (8 * (8 * pg + i / 8) + i % 8) b) = S1 at hP hD
  exact W.vret hx hb hret (fun t9 ht9 hW9 => ⟨⟨_, rfl, by rw [← eS1, show 8 * (8 * pg + i / 8) + i % 8 = 64 * pg + i by omega]; rfl, by rw [ht9]; exact hP, va_K.moved hW9.alike hK, hD⟩, hS.F ht9⟩) hS.2.2 d_MO_write_51
set_option maxHeartbeats 4000000 in
set_option maxRecDepth 100000 in
/-- read(c, i) -/
theorem c_MO_read (l : Launch) (dC : Nat → ClassId) (dI : Nat → Nat → Nat) (cI cB cE cL cZ : ClassId) (n : Nat) (am : Nat → Nat) (S : pdS) (d i : Nat) (hd : d < 32) (hi : i < 25600) (hp : S (8 + d) (i / 64) < 1024) (h0 : ∀ j, S 0 j < 256) (sz : Nat) : CMi l (dC, dI) (pw_ty cI cB cE cL cZ) y_MO_read w_MO_read ({ frames := 0, cells := 0, slots := 0, locals := 0 }) [.ref (am 0), .int (nI d), .int (nI i)] (mw n am cI cL cZ S) (fun _ : Unit => mw n am cI cL cZ S) sz (fun r _ => r = nI (pd_by S d i)) := by
  refine Met.ofW (cc := b_MO_read) (maxL := 3) (ret := (some .int)) (by decide) rfl ?_
  intro p e s m args below meth c s₁ B hml hv
  obtain ⟨rfl, hsz, hP, hK, hD0⟩ := hv
  have hx := B.exec
  have hb := B.bytes
  have hret := B.returns
  have hts := atoms_spec (ws := w_MO_read) B.pre
  have hg : ∀ w ∈ wsG, w.before _ s = true := fun w h => hts w (List.mem_cons_of_mem _ h)
  have hown : s.vm.findClass "PageDriveModel" = some m.cls := findClass_of_methodNamed B.named
  have hlocks := B.notSynchronized
  subst hsz
  have hD := hD0.self (sz := s.heap.size)
  generalize hAe : va_A (mw n am cI cL cZ S) s.heap.size = A at hD ⊢
  have hA : ∀ q : Nat, s.heap.size ≤ q → A q := fun q h => by rw [← hAe]; exact Or.inr h
  have hS : va_S A s.heap s.heap [] := va_S.rf
  have hl := lv_entry ([.ref (am 0), .int (nI d), .int (nI i)]) (n := 3) (Nat.le_of_ble_eq_true rfl)
  rw [lg_entry_eq]
  generalize (lg_sl ([.ref (am 0), .int (nI d), .int (nI i)]) ++ List.replicate (3 - (lg_sl ([.ref (am 0), .int (nI d), .int (nI i)])).length) Slot.unset).toArray = ls at hl ⊢
  have hl : lv_has ls 3 [(0, .ref (am 0)), (1, .int (nI d)), (2, .int (nI i))] := hl
  refine lv_aload_n hx hb d_MO_read_0 rfl (lv_at hl 0 rfl) ?_
  refine va_get (C := "PageDriveModel") (T := F_MO) (N := 11) hx hb hg iw_MO hown hK hP (0) mw_g0 rfl 4 (by decide) (hg (Cond.fieldLink "PageDriveModel" 13 "PageDriveModel" "pages" "[J") (wG_m10 (List.mem_of_getElem? (i := 27) rfl))) (fun _ h9 => h9) rfl d_MO_read_1 ?_
  refine lv_bipush (v := nI 8) hx hb d_MO_read_4 (by decide) ?_
  refine lv_aload_n hx hb d_MO_read_6 rfl (lv_at hl 0 rfl) ?_
  refine va_get (C := "PageDriveModel") (T := F_MO) (N := 11) hx hb hg iw_MO hown hK hP (0) mw_g0 rfl 5 (by decide) (hg (Cond.fieldLink "PageDriveModel" 17 "PageDriveModel" "rows" "[I") (wG_m10 (List.mem_of_getElem? (i := 28) rfl))) (fun _ h9 => h9) rfl d_MO_read_7 ?_
  refine lv_sipush (v := nI 400) hx hb d_MO_read_10 (by decide) ?_
  refine lv_iload_n hx hb d_MO_read_13 rfl (lv_at hl 1 rfl) ?_
  refine pq_imul hx hb d_MO_read_14 ?_
  refine lv_iload_n hx hb d_MO_read_15 rfl (lv_at hl 2 rfl) ?_
  refine lv_bipush (v := nI 64) hx hb d_MO_read_16 (by decide) ?_
  refine pq_idiv hx hb (by omega) (by omega) (by omega) d_MO_read_18 ?_
  refine pq_iadd hx hb d_MO_read_19 ?_
  refine pm_rowld (d := d) (k := (i / 64)) hx hb hK hP (by omega) (by omega) (by omega) rfl d_MO_read_20 ?_
  refine pq_imul hx hb d_MO_read_21 ?_
  refine lv_iload_n hx hb d_MO_read_22 rfl (lv_at hl 2 rfl) ?_
  refine lv_bipush (v := nI 64) hx hb d_MO_read_23 (by decide) ?_
  refine pq_irem hx hb (by omega) (by omega) (by omega) d_MO_read_25 ?_
  refine lv_bipush (v := nI 8) hx hb d_MO_read_26 (by decide) ?_
  refine pq_idiv hx hb (by omega) (by omega) (by omega) d_MO_read_28 ?_
  refine pq_iadd hx hb d_MO_read_29 ?_
  refine pm_pgld hx hb hK hP (by omega) rfl d_MO_read_30 ?_
  refine lv_bipush (v := nI 8) hx hb d_MO_read_31 (by decide) ?_
  refine lv_iload_n hx hb d_MO_read_33 rfl (lv_at hl 2 rfl) ?_
  refine lv_bipush (v := nI 8) hx hb d_MO_read_34 (by decide) ?_
  refine pq_irem hx hb (by omega) (by omega) (by omega) d_MO_read_36 ?_
  refine pq_imul hx hb d_MO_read_37 ?_
  refine lv_lshr hx hb d_MO_read_38 rfl ?_
  refine lv_ldc2 hx hb hown (hg (Cond.constantLong "PageDriveModel" 51 (255)) (wG_m11 (List.mem_of_getElem? (i := 33) rfl))) d_MO_read_39 ?_
  refine lv_land hx hb d_MO_read_42 ?_
  refine lv_l2i hx hb d_MO_read_43 rfl ?_
  refine pq_top (y := nI (pd_by S d i)) (by rw [pd_rd _ (by omega), pd_lw_bv h0 _ (by omega), show 8 * (8 * S (8 + d) (i / 64) + i % 64 / 8) + i % 8 = 64 * S (8 + d) (i / 64) + i % 64 by omega]; rfl) ?_
  exact W.iret (v := (nI (pd_by S d i))) hx hb hret (fun t9 ht9 hW9 => ⟨⟨_, (), rfl, rfl, by rw [ht9]; exact hP, va_K.moved hW9.alike hK, hD⟩, hS.F ht9⟩) hS.2.2 d_MO_read_44
end
section
/-! PURE, 13: for the model -/
theorem pd_lgle {a b : Nat} (ha : a < 2 ^ 63) (hb : b < 2 ^ 63) : lg_cmp (lN a) (lN b) ≤ 0 ↔ a ≤ b := by
  unfold lg_cmp
  by_cases h1 : lN b < lN a
  · rw [if_pos h1]
    have := (pk_lLT hb ha).mp h1
    exact ⟨fun q => absurd q (by decide), fun q => by omega⟩
  · rw [if_neg h1]
    have hab : a ≤ b := Nat.not_lt.mp fun q => h1 ((pk_lLT hb ha).mpr q)
    by_cases h2 : lN a = lN b
    · rw [if_pos h2]
      exact ⟨fun _ => hab, fun _ => by decide⟩
    · rw [if_neg h2]
      exact ⟨fun _ => hab, fun _ => by decide⟩
theorem pd_be_m {S T S' : pdS} {to fr : Nat} (hto : to < 32) (hb : ∀ b, b ≠ 8 + to → T b = S b) (hr : ∀ j, j < 400 → T (8 + to) j = S (8 + fr) j) (h4 : S 4 fr ≤ 25600) (e : S' = pd_st (pd_st T 4 to (S 4 fr)) 5 to (S 5 fr)) : pd_be S S' to fr := by
  have eb : ∀ b, b ≠ 4 → b ≠ 5 → S' b = T b := fun b h1 h2 => by rw [e, pd_bk _ h2, pd_bk _ h1]
  refine ⟨?_, ?_, ?_, ?_, ?_, ?_, ?_, fun k hk => ?_, fun d k hd hdt _ => ?_⟩
  · rw [eb 0 (by decide) (by decide), hb 0 (by omega)]
  · rw [eb 3 (by decide) (by decide), hb 3 (by omega)]
  · rw [e, pd_bk _ (by decide), pd_own, hb 4 (by omega)]
  · rw [e, pd_own, pd_bk _ (by decide), hb 5 (by omega)]
  · rw [eb 6 (by decide) (by decide), hb 6 (by omega)]
  · rw [eb 7 (by decide) (by decide), hb 7 (by omega)]
  · rw [eb 7 (by decide) (by decide), hb 7 (by omega)]
  · rw [eb (8 + to) (by omega) (by omega), hr k (by unfold pd_pf at hk; omega)]
  · rw [eb (8 + d) (by omega) (by omega), hb (8 + d) (by omega)]
theorem pd_sh_m {S : pdS} {c x : Nat} : pd_sh S (pd_st S 4 c x) c x := by
  refine ⟨pd_bk _ (by decide), pd_bk _ (by decide), pd_own .., pd_bk _ (by decide), pd_bk _ (by decide), ?_, ?_, fun d _ => pd_bk _ (by omega)⟩
  · rw [pd_bk _ (by decide)]
  · rw [pd_bk _ (by decide)]
theorem pd_un_m {S : pdS} {f k : Nat} (hp : pd_po S) (hf : f < 16) (hk : k < pd_pf (S 4 (2 * f))) : (∃ j, j < pd_pf (S 4 (2 * f + 1)) ∧ S (8 + (2 * f + 1)) j = S (8 + 2 * f) k) ↔ (k < pd_pf (S 4 (2 * f + 1)) ∧ S (8 + (2 * f + 1)) k = S (8 + 2 * f) k) := by
  constructor
  · rintro ⟨j, hj, hq⟩
    have hjk := hp (2 * f + 1) (2 * f) j k (by omega) (by omega) hj hk hq
    subst hjk
    exact ⟨hj, hq⟩
  · rintro ⟨h1, h2⟩
    exact ⟨k, h1, h2⟩
end
section
/-! THE MODEL, 2: become, shorten, isIn, settle, present, breaks, sharedPages, feed -/
set_option maxHeartbeats 4000000 in
set_option maxRecDepth 100000 in
/-- become(to, fr) -/
theorem c_MO_become (l : Launch) (dC : Nat → ClassId) (dI : Nat → Nat → Nat) (cI cB cE cL cZ : ClassId) (n : Nat) (am : Nat → Nat) (S : pdS) (to fr : Nat) (ht : to < 32) (hf : fr < 32) (hne : to ≠ fr) (h4 : S 4 fr ≤ 25600) (h5 : S 5 fr ≤ 1) (sz : Nat) : CMv l (dC, dI) (pw_ty cI cB cE cL cZ) y_MO_become w_MO_become ({ frames := 0, cells := 0, slots := 0, locals := 0 }) [.ref (am 0), .int (nI to), .int (nI fr)] (mw n am cI cL cZ S) (mw n am cI cL cZ) sz (fun S2 => pd_be S S2 to fr ∧ S2 7 = S 7 ∧ S2 1 = S 1) := by
  refine Met.ofW (cc := b_MO_become) (maxL := 4) (ret := none) (by decide) rfl ?_
  intro p e s m args below meth c s₁ B hml hv
  obtain ⟨rfl, hsz, hP, hK, hD0⟩ := hv
  have hx := B.exec
  have hb := B.bytes
  have hret := B.returns
  have hts := atoms_spec (ws := w_MO_become) B.pre
  have hg : ∀ w ∈ wsG, w.before _ s = true := fun w h => hts w (List.mem_cons_of_mem _ h)
  have hown : s.vm.findClass "PageDriveModel" = some m.cls := findClass_of_methodNamed B.named
  have hlocks := B.notSynchronized
  subst hsz
  have hD := hD0.self (sz := s.heap.size)
  generalize hAe : va_A (mw n am cI cL cZ S) s.heap.size = A at hD ⊢
  have hA : ∀ q : Nat, s.heap.size ≤ q → A q := fun q h => by rw [← hAe]; exact Or.inr h
  have hS : va_S A s.heap s.heap [] := va_S.rf
  have hl := lv_entry ([.ref (am 0), .int (nI to), .int (nI fr)]) (n := 4) (Nat.le_of_ble_eq_true rfl)
  rw [lg_entry_eq]
  generalize (lg_sl ([.ref (am 0), .int (nI to), .int (nI fr)]) ++ List.replicate (4 - (lg_sl ([.ref (am 0), .int (nI to), .int (nI fr)])).length) Slot.unset).toArray = ls at hl ⊢
  have hl : lv_has ls 4 [(0, .ref (am 0)), (1, .int (nI to)), (2, .int (nI fr))] := hl
  refine lv_iconst (v := nI 0) hx hb d_MO_become_0 (by decide) ?_
  refine lv_istore_n (lv' := [(3, .int (nI 0)), (0, .ref (am 0)), (1, .int (nI to)), (2, .int (nI fr))]) hx hb d_MO_become_1 rfl hl (by decide) rfl (fun ls hl => ?_)
  refine pw_loop (fun mm H locs ls => ∃ (T : pdS) (k : Nat), mm = 400 - k ∧ k ≤ 400 ∧ (∀ b, b ≠ 8 + to → T b = S b) ∧ (∀ j, j < k → T (8 + to) j = S (8 + fr) j) ∧ va_P (dC, dI) pwCl (mw n am cI cL cZ T) H ∧ va_D A (mw n am cI cL cZ T) ∧ va_S A s.heap H locs ∧ lv_has ls 4 [(3, .int (nI k)), (0, .ref (am 0)), (1, .int (nI to)), (2, .int (nI fr))]) ?_ _ _ _ _ ⟨S, 0, rfl, by omega, fun _ _ => rfl, fun j h => by omega, hP, hD, hS, hl⟩
  rintro mm H locs ls ⟨T, k, hmm, hk, hT, hz, hP, hD, hS, hl⟩ ih
  have hTf : T (8 + fr) = S (8 + fr) := hT _ (by omega)
  refine lv_iload_n hx hb d_MO_become_2 rfl (lv_at hl 0 rfl) ?_
  refine lv_sipush (v := nI 400) hx hb d_MO_become_3 (by decide) ?_
  refine pq_icmp_ge (tgt := 39) hx hb (by omega) (by omega) d_MO_become_6 (by decide) (fun h1 => ?_) (fun h1 => ?_)
  · have h4T : T 4 fr = S 4 fr := by rw [hT 4 (by omega)]
    have h5T : T 5 fr = S 5 fr := by rw [hT 5 (by omega)]
    refine lv_aload_n hx hb d_MO_become_39 rfl (lv_at hl 1 rfl) ?_
    refine va_get (C := "PageDriveModel") (T := F_MO) (N := 11) hx hb hg iw_MO hown hK hP (0) mw_g0 rfl 6 (by decide) (hg (Cond.fieldLink "PageDriveModel" 20 "PageDriveModel" "sizes" "[I") (wG_m10 (List.mem_of_getElem? (i := 29) rfl))) (fun _ h9 => h9) rfl d_MO_become_40 ?_
    refine lv_iload_n hx hb d_MO_become_43 rfl (lv_at hl 2 rfl) ?_
    refine lv_aload_n hx hb d_MO_become_44 rfl (lv_at hl 1 rfl) ?_
    refine va_get (C := "PageDriveModel") (T := F_MO) (N := 11) hx hb hg iw_MO hown hK hP (0) mw_g0 rfl 6 (by decide) (hg (Cond.fieldLink "PageDriveModel" 20 "PageDriveModel" "sizes" "[I") (wG_m10 (List.mem_of_getElem? (i := 29) rfl))) (fun _ h9 => h9) rfl d_MO_become_45 ?_
    refine lv_iload_n hx hb d_MO_become_48 rfl (lv_at hl 3 rfl) ?_
    refine pq_iald hx hb hK hP 4 0 mw_g4 rfl (by omega) (by omega) d_MO_become_49 ?_
    refine pq_top (y := nI (S 4 fr)) (by rw [h4T]) ?_
    refine pm_size hx hb hK hP hD hS (by omega) rfl d_MO_become_50 (fun H locs hP hD hS => ?_)
    generalize eS1 : pd_st T 4 to (S 4 fr) = S1 at hP hD
    have h5S : S1 5 fr = S 5 fr := by rw [← eS1, pd_bk _ (by decide), h5T]
    refine lv_aload_n hx hb d_MO_become_51 rfl (lv_at hl 1 rfl) ?_
    refine va_get (C := "PageDriveModel") (T := F_MO) (N := 11) hx hb hg iw_MO hown hK hP (0) mw_g0 rfl 7 (by decide) (hg (Cond.fieldLink "PageDriveModel" 23 "PageDriveModel" "there" "[Z") (wG_m10 (List.mem_of_getElem? (i := 30) rfl))) (fun _ h9 => h9) rfl d_MO_become_52 ?_
    refine lv_iload_n hx hb d_MO_become_55 rfl (lv_at hl 2 rfl) ?_
    refine lv_aload_n hx hb d_MO_become_56 rfl (lv_at hl 1 rfl) ?_
    refine va_get (C := "PageDriveModel") (T := F_MO) (N := 11) hx hb hg iw_MO hown hK hP (0) mw_g0 rfl 7 (by decide) (hg (Cond.fieldLink "PageDriveModel" 23 "PageDriveModel" "there" "[Z") (wG_m10 (List.mem_of_getElem? (i := 30) rfl))) (fun _ h9 => h9) rfl d_MO_become_57 ?_
    refine lv_iload_n hx hb d_MO_become_60 rfl (lv_at hl 3 rfl) ?_
    refine pq_zald hx hb hK hP 5 4 mw_g5 rfl (by omega) (by omega) d_MO_become_61 ?_
    refine pq_top (y := nI (S 5 fr)) (by rw [h5S]) ?_
    refine pm_there hx hb hK hP hD hS h5 (by omega) rfl d_MO_become_62 (fun H locs hP hD hS => ?_)
    generalize eS2 : pd_st S1 5 to (S 5 fr) = S2 at hP hD
    exact W.vret hx hb hret (fun t9 ht9 hW9 => ⟨⟨_, rfl, ⟨pd_be_m ht hT (fun j hj => hz j (by omega)) h4 (by rw [← eS2, ← eS1]), by rw [← eS2, ← eS1, pd_bk _ (by decide), pd_bk _ (by decide), hT 7 (by omega)], by rw [← eS2, ← eS1, pd_bk _ (by decide), pd_bk _ (by decide), hT 1 (by omega)]⟩, by rw [ht9]; exact hP, va_K.moved hW9.alike hK, hD⟩, hS.F ht9⟩) hS.2.2 d_MO_become_63
  · refine lv_aload_n hx hb d_MO_become_9 rfl (lv_at hl 1 rfl) ?_
    refine va_get (C := "PageDriveModel") (T := F_MO) (N := 11) hx hb hg iw_MO hown hK hP (0) mw_g0 rfl 5 (by decide) (hg (Cond.fieldLink "PageDriveModel" 17 "PageDriveModel" "rows" "[I") (wG_m10 (List.mem_of_getElem? (i := 28) rfl))) (fun _ h9 => h9) rfl d_MO_become_10 ?_
    refine lv_sipush (v := nI 400) hx hb d_MO_become_13 (by decide) ?_
    refine lv_iload_n hx hb d_MO_become_16 rfl (lv_at hl 2 rfl) ?_
    refine pq_imul hx hb d_MO_become_17 ?_
    refine lv_iload_n hx hb d_MO_become_18 rfl (lv_at hl 0 rfl) ?_
    refine pq_iadd hx hb d_MO_become_19 ?_
    refine lv_aload_n hx hb d_MO_become_20 rfl (lv_at hl 1 rfl) ?_
    refine va_get (C := "PageDriveModel") (T := F_MO) (N := 11) hx hb hg iw_MO hown hK hP (0) mw_g0 rfl 5 (by decide) (hg (Cond.fieldLink "PageDriveModel" 17 "PageDriveModel" "rows" "[I") (wG_m10 (List.mem_of_getElem? (i := 28) rfl))) (fun _ h9 => h9) rfl d_MO_become_21 ?_
    refine lv_sipush (v := nI 400) hx hb d_MO_become_24 (by decide) ?_
    refine lv_iload_n hx hb d_MO_become_27 rfl (lv_at hl 3 rfl) ?_
    refine pq_imul hx hb d_MO_become_28 ?_
    refine lv_iload_n hx hb d_MO_become_29 rfl (lv_at hl 0 rfl) ?_
    refine pq_iadd hx hb d_MO_become_30 ?_
    refine pm_rowld (d := fr) (k := k) hx hb hK hP (by omega) (by omega) (by omega) rfl d_MO_become_31 ?_
    refine pq_top (y := nI (S (8 + fr) k)) (by rw [hTf]) ?_
    refine pm_row (d := to) (k := k) hx hb hK hP hD hS (by omega) (by omega) (by omega) rfl d_MO_become_32 (fun H locs hP hD hS => ?_)
    generalize eS3 : pd_st T (8 + to) k (S (8 + fr) k) = S3 at hP hD
    refine lv_iinc (v := (nI (k + 1))) (lv' := [(3, .int (nI (k + 1))), (0, .ref (am 0)), (1, .int (nI to)), (2, .int (nI fr))]) hx hb d_MO_become_33 hl (k := 0) rfl (pq_inc _) (by decide) rfl (fun ls hl => ?_)
    refine lv_goto (tgt := 2) hx hb d_MO_become_36 (by decide) ?_
    exact ih _ _ _ _ (by omega) ⟨_, k + 1, rfl, by omega, fun b hb => by rw [← eS3, pd_bk _ hb, hT b hb], fun j hj => by by_cases hjk : j = k; rw [hjk, ← eS3, pd_self]; rw [← eS3, pd_ne _ hjk]; exact hz j (by omega), hP, hD, hS, hl⟩
set_option maxHeartbeats 4000000 in
set_option maxRecDepth 100000 in
/-- shorten(f, x) -/
theorem c_MO_shorten (l : Launch) (dC : Nat → ClassId) (dI : Nat → Nat → Nat) (cI cB cE cL cZ : ClassId) (n : Nat) (am : Nat → Nat) (S : pdS) (f x : Nat) (hf : f < 16) (hx0 : x < 1000000) (h6 : S 6 f < 1000000) (sz : Nat) : CMv l (dC, dI) (pw_ty cI cB cE cL cZ) y_MO_shorten w_MO_shorten ({ frames := 0, cells := 0, slots := 0, locals := 0 }) [.ref (am 0), .int (nI f), .int (nI x)] (mw n am cI cL cZ S) (mw n am cI cL cZ) sz (fun S2 => S2 = pd_st (pd_st S 4 (2 * f) x) 6 f (if x < S 6 f then x else S 6 f)) := by
  refine Met.ofW (cc := b_MO_shorten) (maxL := 3) (ret := none) (by decide) rfl ?_
  intro p e s m args below meth c s₁ B hml hv
  obtain ⟨rfl, hsz, hP, hK, hD0⟩ := hv
  have hx := B.exec
  have hb := B.bytes
  have hret := B.returns
  have hts := atoms_spec (ws := w_MO_shorten) B.pre
  have hg : ∀ w ∈ wsG, w.before _ s = true := fun w h => hts w (List.mem_cons_of_mem _ h)
  have hown : s.vm.findClass "PageDriveModel" = some m.cls := findClass_of_methodNamed B.named
  have hlocks := B.notSynchronized
  subst hsz
  have hD := hD0.self (sz := s.heap.size)
  generalize hAe : va_A (mw n am cI cL cZ S) s.heap.size = A at hD ⊢
  have hA : ∀ q : Nat, s.heap.size ≤ q → A q := fun q h => by rw [← hAe]; exact Or.inr h
  have hS : va_S A s.heap s.heap [] := va_S.rf
  have hl := lv_entry ([.ref (am 0), .int (nI f), .int (nI x)]) (n := 3) (Nat.le_of_ble_eq_true rfl)
  rw [lg_entry_eq]
  generalize (lg_sl ([.ref (am 0), .int (nI f), .int (nI x)]) ++ List.replicate (3 - (lg_sl ([.ref (am 0), .int (nI f), .int (nI x)])).length) Slot.unset).toArray = ls at hl ⊢
  have hl : lv_has ls 3 [(0, .ref (am 0)), (1, .int (nI f)), (2, .int (nI x))] := hl
  refine lv_aload_n hx hb d_MO_shorten_0 rfl (lv_at hl 0 rfl) ?_
  refine va_get (C := "PageDriveModel") (T := F_MO) (N := 11) hx hb hg iw_MO hown hK hP (0) mw_g0 rfl 6 (by decide) (hg (Cond.fieldLink "PageDriveModel" 20 "PageDriveModel" "sizes" "[I") (wG_m10 (List.mem_of_getElem? (i := 29) rfl))) (fun _ h9 => h9) rfl d_MO_shorten_1 ?_
  refine lv_iconst (v := nI 2) hx hb d_MO_shorten_4 (by decide) ?_
  refine lv_iload_n hx hb d_MO_shorten_5 rfl (lv_at hl 1 rfl) ?_
  refine pq_imul hx hb d_MO_shorten_6 ?_
  refine lv_iload_n hx hb d_MO_shorten_7 rfl (lv_at hl 2 rfl) ?_
  refine pm_size hx hb hK hP hD hS (by omega) rfl d_MO_shorten_8 (fun H locs hP hD hS => ?_)
  generalize eS1 : pd_st S 4 (2 * f) x = S1 at hP hD
  have h6S : S1 6 f = S 6 f := by rw [← eS1, pd_bk _ (by decide)]
  refine lv_aload_n hx hb d_MO_shorten_9 rfl (lv_at hl 0 rfl) ?_
  refine va_get (C := "PageDriveModel") (T := F_MO) (N := 11) hx hb hg iw_MO hown hK hP (0) mw_g0 rfl 8 (by decide) (hg (Cond.fieldLink "PageDriveModel" 27 "PageDriveModel" "lows" "[I") (wG_m10 (List.mem_of_getElem? (i := 31) rfl))) (fun _ h9 => h9) rfl d_MO_shorten_10 ?_
  refine lv_iload_n hx hb d_MO_shorten_13 rfl (lv_at hl 1 rfl) ?_
  refine lv_aload_n hx hb d_MO_shorten_14 rfl (lv_at hl 0 rfl) ?_
  refine va_get (C := "PageDriveModel") (T := F_MO) (N := 11) hx hb hg iw_MO hown hK hP (0) mw_g0 rfl 8 (by decide) (hg (Cond.fieldLink "PageDriveModel" 27 "PageDriveModel" "lows" "[I") (wG_m10 (List.mem_of_getElem? (i := 31) rfl))) (fun _ h9 => h9) rfl d_MO_shorten_15 ?_
  refine lv_iload_n hx hb d_MO_shorten_18 rfl (lv_at hl 1 rfl) ?_
  refine pq_iald hx hb hK hP 6 0 mw_g6 rfl (by omega) (by omega) d_MO_shorten_19 ?_
  refine lv_iload_n hx hb d_MO_shorten_20 rfl (lv_at hl 2 rfl) ?_
  refine pq_icmp_le (tgt := 28) hx hb (by omega) (by omega) d_MO_shorten_21 (by decide) (fun h1 => ?_) (fun h1 => ?_)
  · refine lv_aload_n hx hb d_MO_shorten_28 rfl (lv_at hl 0 rfl) ?_
    refine va_get (C := "PageDriveModel") (T := F_MO) (N := 11) hx hb hg iw_MO hown hK hP (0) mw_g0 rfl 8 (by decide) (hg (Cond.fieldLink "PageDriveModel" 27 "PageDriveModel" "lows" "[I") (wG_m10 (List.mem_of_getElem? (i := 31) rfl))) (fun _ h9 => h9) rfl d_MO_shorten_29 ?_
    refine lv_iload_n hx hb d_MO_shorten_32 rfl (lv_at hl 1 rfl) ?_
    refine pq_iald hx hb hK hP 6 0 mw_g6 rfl (by omega) (by omega) d_MO_shorten_33 ?_
    refine pq_top (y := nI (S 6 f)) (by rw [h6S]) ?_
    refine pm_low hx hb hK hP hD hS (by omega) rfl d_MO_shorten_34 (fun H locs hP hD hS => ?_)
    generalize eS2 : pd_st S1 6 f (S 6 f) = S2 at hP hD
    exact W.vret hx hb hret (fun t9 ht9 hW9 => ⟨⟨_, rfl, by rw [← eS2, ← eS1, if_neg (by omega)], by rw [ht9]; exact hP, va_K.moved hW9.alike hK, hD⟩, hS.F ht9⟩) hS.2.2 d_MO_shorten_35
  · refine lv_iload_n hx hb d_MO_shorten_24 rfl (lv_at hl 2 rfl) ?_
    refine lv_goto (tgt := 34) hx hb d_MO_shorten_25 (by decide) ?_
    refine pm_low hx hb hK hP hD hS (by omega) rfl d_MO_shorten_34 (fun H locs hP hD hS => ?_)
    generalize eS3 : pd_st S1 6 f x = S3 at hP hD
    exact W.vret hx hb hret (fun t9 ht9 hW9 => ⟨⟨_, rfl, by rw [← eS3, ← eS1, if_pos (by omega)], by rw [ht9]; exact hP, va_K.moved hW9.alike hK, hD⟩, hS.F ht9⟩) hS.2.2 d_MO_shorten_35
set_option maxHeartbeats 4000000 in
set_option maxRecDepth 100000 in
/-- isIn(d, pg) -/
theorem c_MO_isIn (l : Launch) (dC : Nat → ClassId) (dI : Nat → Nat → Nat) (cI cB cE cL cZ : ClassId) (n : Nat) (am : Nat → Nat) (S : pdS) (d pg : Nat) (hd : d < 32) (h4 : S 4 d ≤ 25600) (hpg : pg < 1024) (hrow : ∀ k, k < pd_pf (S 4 d) → S (8 + d) k < 1024) (sz : Nat) : CMi l (dC, dI) (pw_ty cI cB cE cL cZ) y_MO_isIn w_MO_isIn ({ frames := 1, cells := 0, slots := 0, locals := 20 }) [.ref (am 0), .int (nI d), .int (nI pg)] (mw n am cI cL cZ S) (fun _ : Unit => mw n am cI cL cZ S) sz (fun r _ => ((∃ j, j < pd_pf (S 4 d) ∧ S (8 + d) j = pg) ∧ r = nI 1) ∨ ((∀ j, j < pd_pf (S 4 d) → S (8 + d) j ≠ pg) ∧ r = nI 0)) := by
  refine Met.ofW (cc := b_MO_isIn) (maxL := 5) (ret := (some .boolean)) (by decide) rfl ?_
  intro p e s m args below meth c s₁ B hml hv
  obtain ⟨rfl, hsz, hP, hK, hD0⟩ := hv
  have hx := B.exec
  have hb := B.bytes
  have hret := B.returns
  have hts := atoms_spec (ws := w_MO_isIn) B.pre
  have hg : ∀ w ∈ wsG, w.before _ s = true := fun w h => hts w (List.mem_cons_of_mem _ h)
  have hown : s.vm.findClass "PageDriveModel" = some m.cls := findClass_of_methodNamed B.named
  have hlocks := B.notSynchronized
  subst hsz
  have hD := hD0.self (sz := s.heap.size)
  generalize hAe : va_A (mw n am cI cL cZ S) s.heap.size = A at hD ⊢
  have hA : ∀ q : Nat, s.heap.size ≤ q → A q := fun q h => by rw [← hAe]; exact Or.inr h
  have hS : va_S A s.heap s.heap [] := va_S.rf
  have hl := lv_entry ([.ref (am 0), .int (nI d), .int (nI pg)]) (n := 5) (Nat.le_of_ble_eq_true rfl)
  rw [lg_entry_eq]
  generalize (lg_sl ([.ref (am 0), .int (nI d), .int (nI pg)]) ++ List.replicate (5 - (lg_sl ([.ref (am 0), .int (nI d), .int (nI pg)])).length) Slot.unset).toArray = ls at hl ⊢
  have hl : lv_has ls 5 [(0, .ref (am 0)), (1, .int (nI d)), (2, .int (nI pg))] := hl
  have h400 : pd_pf (S 4 d) ≤ 400 := by unfold pd_pf; omega
  refine lv_iconst (v := nI 0) hx hb d_MO_isIn_0 (by decide) ?_
  refine lv_istore_n (lv' := [(3, .int (nI 0)), (0, .ref (am 0)), (1, .int (nI d)), (2, .int (nI pg))]) hx hb d_MO_isIn_1 rfl hl (by decide) rfl (fun ls hl => ?_)
  refine lv_iconst (v := nI 0) hx hb d_MO_isIn_2 (by decide) ?_
  refine lv_istore (lv' := [(4, .int (nI 0)), (3, .int (nI 0)), (0, .ref (am 0)), (1, .int (nI d)), (2, .int (nI pg))]) hx hb d_MO_isIn_3 hl (by decide) rfl (fun ls hl => ?_)
  refine pw_loop (fun mm H locs ls => ∃ k v : Nat, mm = pd_pf (S 4 d) - k ∧ k ≤ pd_pf (S 4 d) ∧ (((∃ j, j < k ∧ S (8 + d) j = pg) ∧ v = 1) ∨ ((∀ j, j < k → S (8 + d) j ≠ pg) ∧ v = 0)) ∧ va_P (dC, dI) pwCl (mw n am cI cL cZ S) H ∧ va_D A (mw n am cI cL cZ S) ∧ va_S A s.heap H locs ∧ lv_has ls 5 [(4, .int (nI k)), (3, .int (nI v)), (0, .ref (am 0)), (1, .int (nI d)), (2, .int (nI pg))]) ?_ _ _ _ _ ⟨0, 0, rfl, by omega, Or.inr ⟨fun j h => by omega, rfl⟩, hP, hD, hS, hl⟩
  rintro mm H locs ls ⟨k, v, hmm, hk, hv, hP, hD, hS, hl⟩ ih
  refine lv_iload hx hb d_MO_isIn_5 (lv_at hl 0 rfl) ?_
  refine lv_aload_n hx hb d_MO_isIn_7 rfl (lv_at hl 2 rfl) ?_
  refine va_get (C := "PageDriveModel") (T := F_MO) (N := 11) hx hb hg iw_MO hown hK hP (0) mw_g0 rfl 6 (by decide) (hg (Cond.fieldLink "PageDriveModel" 20 "PageDriveModel" "sizes" "[I") (wG_m10 (List.mem_of_getElem? (i := 29) rfl))) (fun _ h9 => h9) rfl d_MO_isIn_8 ?_
  refine lv_iload_n hx hb d_MO_isIn_11 rfl (lv_at hl 3 rfl) ?_
  refine pq_iald hx hb hK hP 4 0 mw_g4 rfl (by omega) (by omega) d_MO_isIn_12 ?_
  refine pw_callip (va_runS (As := [.int (nI (S 4 d))]) (rest := [.int (nI k)]) ⟨hx, hb, hml, hown, hg⟩ (c_MO_needed l dC dI cI cB cE cL cZ (mw n am cI cL cZ S) (S 4 d) (by omega) H.size) (cwS 1 hg (gi_S (fun _ h => h) (wG_m12 (List.mem_of_getElem? (i := 4) rfl)) (wG_m12 (List.mem_of_getElem? (i := 5) rfl)) (wG_m1 (List.mem_of_getElem? (i := 6) rfl)) (wG_m12 (List.mem_of_getElem? (i := 6) rfl))) rfl rfl rfl (by decide +kernel) ⟨Nat.le_of_ble_eq_true rfl, Nat.le_of_ble_eq_true rfl⟩) (pw_ps hK hP hD [.int (nI (S 4 d))]) rfl rfl hl.1 rfl (lv_room (Nat.le_of_ble_eq_true rfl)) d_MO_isIn_13 ⟨Nat.le_of_ble_eq_true rfl, Nat.le_of_ble_eq_true rfl⟩) hD hS hA (fun r1 H locs hr hP hD hS => ?_)
  subst hr
  refine pq_icmp_ge (tgt := 52) hx hb (by omega) (by omega) d_MO_isIn_16 (by decide) (fun h1 => ?_) (fun h1 => ?_)
  · have hkk : k = pd_pf (S 4 d) := by omega
    subst hkk
    rcases hv with ⟨h2, rfl⟩ | ⟨h2, rfl⟩
    · refine lv_iload_n hx hb d_MO_isIn_52 rfl (lv_at hl 1 rfl) ?_
      exact W.zret (v := (nI 1)) hx hb hret rfl (fun t9 ht9 hW9 => ⟨⟨_, (), rfl, Or.inl ⟨h2, rfl⟩, by rw [ht9]; exact hP, va_K.moved hW9.alike hK, hD⟩, hS.F ht9⟩) hS.2.2 d_MO_isIn_53
    · refine lv_iload_n hx hb d_MO_isIn_52 rfl (lv_at hl 1 rfl) ?_
      exact W.zret (v := (nI 0)) hx hb hret rfl (fun t9 ht9 hW9 => ⟨⟨_, (), rfl, Or.inr ⟨h2, rfl⟩, by rw [ht9]; exact hP, va_K.moved hW9.alike hK, hD⟩, hS.F ht9⟩) hS.2.2 d_MO_isIn_53
  · have hrk := hrow k h1
    rcases hv with ⟨h2, rfl⟩ | ⟨h2, rfl⟩
    · refine lv_iload_n hx hb d_MO_isIn_19 rfl (lv_at hl 1 rfl) ?_
      refine pq_if_ne (tgt := 40) hx hb (by omega) d_MO_isIn_20 (by decide) (fun _ => ?_) (fun h9 => absurd h9 (by omega))
      refine lv_iconst (v := nI 1) hx hb d_MO_isIn_40 (by decide) ?_
      refine lv_goto (tgt := 45) hx hb d_MO_isIn_41 (by decide) ?_
      refine lv_istore_n (lv' := [(3, .int (nI 1)), (4, .int (nI k)), (0, .ref (am 0)), (1, .int (nI d)), (2, .int (nI pg))]) hx hb d_MO_isIn_45 rfl hl (by decide) rfl (fun ls hl => ?_)
      refine lv_iinc (v := (nI (k + 1))) (lv' := [(4, .int (nI (k + 1))), (3, .int (nI 1)), (0, .ref (am 0)), (1, .int (nI d)), (2, .int (nI pg))]) hx hb d_MO_isIn_46 hl (k := 1) rfl (pq_inc _) (by decide) rfl (fun ls hl => ?_)
      refine lv_goto (tgt := 5) hx hb d_MO_isIn_49 (by decide) ?_
      exact ih _ _ _ _ (by omega) ⟨k + 1, 1, rfl, by omega, Or.inl ⟨by obtain ⟨j, hj, hq⟩ := h2; exact ⟨j, by omega, hq⟩, rfl⟩, hP, hD, hS, hl⟩
    · refine lv_iload_n hx hb d_MO_isIn_19 rfl (lv_at hl 1 rfl) ?_
      refine pq_if_ne (tgt := 40) hx hb (by omega) d_MO_isIn_20 (by decide) (fun h9 => absurd h9 (by omega)) (fun _ => ?_)
      refine lv_aload_n hx hb d_MO_isIn_23 rfl (lv_at hl 2 rfl) ?_
      refine va_get (C := "PageDriveModel") (T := F_MO) (N := 11) hx hb hg iw_MO hown hK hP (0) mw_g0 rfl 5 (by decide) (hg (Cond.fieldLink "PageDriveModel" 17 "PageDriveModel" "rows" "[I") (wG_m10 (List.mem_of_getElem? (i := 28) rfl))) (fun _ h9 => h9) rfl d_MO_isIn_24 ?_
      refine lv_sipush (v := nI 400) hx hb d_MO_isIn_27 (by decide) ?_
      refine lv_iload_n hx hb d_MO_isIn_30 rfl (lv_at hl 3 rfl) ?_
      refine pq_imul hx hb d_MO_isIn_31 ?_
      refine lv_iload hx hb d_MO_isIn_32 (lv_at hl 0 rfl) ?_
      refine pq_iadd hx hb d_MO_isIn_34 ?_
      refine pm_rowld (d := d) (k := k) hx hb hK hP (by omega) (by omega) (by omega) rfl d_MO_isIn_35 ?_
      refine lv_iload_n hx hb d_MO_isIn_36 rfl (lv_at hl 4 rfl) ?_
      refine pq_icmp_ne (tgt := 44) hx hb (by omega) (by omega) d_MO_isIn_37 (by decide) (fun h3 => ?_) (fun h3 => ?_)
      · refine lv_iconst (v := nI 0) hx hb d_MO_isIn_44 (by decide) ?_
        refine lv_istore_n (lv' := [(3, .int (nI 0)), (4, .int (nI k)), (0, .ref (am 0)), (1, .int (nI d)), (2, .int (nI pg))]) hx hb d_MO_isIn_45 rfl hl (by decide) rfl (fun ls hl => ?_)
        refine lv_iinc (v := (nI (k + 1))) (lv' := [(4, .int (nI (k + 1))), (3, .int (nI 0)), (0, .ref (am 0)), (1, .int (nI d)), (2, .int (nI pg))]) hx hb d_MO_isIn_46 hl (k := 1) rfl (pq_inc _) (by decide) rfl (fun ls hl => ?_)
        refine lv_goto (tgt := 5) hx hb d_MO_isIn_49 (by decide) ?_
        exact ih _ _ _ _ (by omega) ⟨k + 1, 0, rfl, by omega, Or.inr ⟨fun j hj => by by_cases q : j = k; rw [q]; exact h3; exact h2 j (by omega), rfl⟩, hP, hD, hS, hl⟩
      · refine lv_iconst (v := nI 1) hx hb d_MO_isIn_40 (by decide) ?_
        refine lv_goto (tgt := 45) hx hb d_MO_isIn_41 (by decide) ?_
        refine lv_istore_n (lv' := [(3, .int (nI 1)), (4, .int (nI k)), (0, .ref (am 0)), (1, .int (nI d)), (2, .int (nI pg))]) hx hb d_MO_isIn_45 rfl hl (by decide) rfl (fun ls hl => ?_)
        refine lv_iinc (v := (nI (k + 1))) (lv' := [(4, .int (nI (k + 1))), (3, .int (nI 1)), (0, .ref (am 0)), (1, .int (nI d)), (2, .int (nI pg))]) hx hb d_MO_isIn_46 hl (k := 1) rfl (pq_inc _) (by decide) rfl (fun ls hl => ?_)
        refine lv_goto (tgt := 5) hx hb d_MO_isIn_49 (by decide) ?_
        exact ih _ _ _ _ (by omega) ⟨k + 1, 1, rfl, by omega, Or.inl ⟨⟨k, by omega, h3⟩, rfl⟩, hP, hD, hS, hl⟩
set_option maxHeartbeats 4000000 in
set_option maxRecDepth 100000 in
/-- settle(f) -/
theorem c_MO_settle (l : Launch) (dC : Nat → ClassId) (dI : Nat → Nat → Nat) (cI cB cE cL cZ : ClassId) (n : Nat) (am : Nat → Nat) (S : pdS) (f : Nat) (hf : f < 16) (hv : pd_v 1024 S) (sz : Nat) : CMv l (dC, dI) (pw_ty cI cB cE cL cZ) y_MO_settle w_MO_settle ({ frames := 1, cells := 0, slots := 0, locals := 23 }) [.ref (am 0), .int (nI f)] (mw n am cI cL cZ S) (mw n am cI cL cZ) sz (fun S2 => pd_set S S2 f ∧ S2 7 = S 7) := by
  refine Met.ofW (cc := b_MO_settle) (maxL := 2) (ret := none) (by decide) rfl ?_
  intro p e s m args below meth c s₁ B hml hv
  obtain ⟨rfl, hsz, hP, hK, hD0⟩ := hv
  have hx := B.exec
  have hb := B.bytes
  have hret := B.returns
  have hts := atoms_spec (ws := w_MO_settle) B.pre
  have hg : ∀ w ∈ wsG, w.before _ s = true := fun w h => hts w (List.mem_cons_of_mem _ h)
  have hown : s.vm.findClass "PageDriveModel" = some m.cls := findClass_of_methodNamed B.named
  have hlocks := B.notSynchronized
  subst hsz
  have hD := hD0.self (sz := s.heap.size)
  generalize hAe : va_A (mw n am cI cL cZ S) s.heap.size = A at hD ⊢
  have hA : ∀ q : Nat, s.heap.size ≤ q → A q := fun q h => by rw [← hAe]; exact Or.inr h
  have hS : va_S A s.heap s.heap [] := va_S.rf
  have hl := lv_entry ([.ref (am 0), .int (nI f)]) (n := 2) (Nat.le_of_ble_eq_true rfl)
  rw [lg_entry_eq]
  generalize (lg_sl ([.ref (am 0), .int (nI f)]) ++ List.replicate (2 - (lg_sl ([.ref (am 0), .int (nI f)])).length) Slot.unset).toArray = ls at hl ⊢
  have hl : lv_has ls 2 [(0, .ref (am 0)), (1, .int (nI f))] := hl
  have hs4 := (hv.1 (2 * f) (by omega)).1
  have hs5 := (hv.1 (2 * f) (by omega)).2.1
  refine lv_aload_n hx hb d_MO_settle_0 rfl (lv_at hl 0 rfl) ?_
  refine lv_iconst (v := nI 2) hx hb d_MO_settle_1 (by decide) ?_
  refine lv_iload_n hx hb d_MO_settle_2 rfl (lv_at hl 1 rfl) ?_
  refine pq_imul hx hb d_MO_settle_3 ?_
  refine lv_iconst (v := nI 1) hx hb d_MO_settle_4 (by decide) ?_
  refine pq_iadd hx hb d_MO_settle_5 ?_
  refine lv_iconst (v := nI 2) hx hb d_MO_settle_6 (by decide) ?_
  refine lv_iload_n hx hb d_MO_settle_7 rfl (lv_at hl 1 rfl) ?_
  refine pq_imul hx hb d_MO_settle_8 ?_
  refine pw_callv (va_runV (As := [.int (nI ((2 * f) + 1)), .int (nI (2 * f))]) (rest := []) ⟨hx, hb, hml, hown, hg⟩ (c_MO_become l dC dI cI cB cE cL cZ n am S (2 * f + 1) (2 * f) (by omega) (by omega) (by omega) hs4 hs5 s.heap.size) (cwV 2 hg (gi_V (fun _ h => h) (wG_m12 (List.mem_of_getElem? (i := 29) rfl)) (wG_m12 (List.mem_of_getElem? (i := 30) rfl)) (wG_m14 (List.mem_of_getElem? (i := 16) rfl)) (wG_m1 (List.mem_of_getElem? (i := 6) rfl)) (wG_m12 (List.mem_of_getElem? (i := 31) rfl))) rfl rfl rfl (by decide +kernel) ⟨Nat.le_of_ble_eq_true rfl, Nat.le_of_ble_eq_true rfl⟩) (pw_pv hK hP hD (va_recv hK hP (ci := 4) (q0 := 0) rfl mw_g0) [.int (nI ((2 * f) + 1)), .int (nI (2 * f))]) rfl rfl hl.1 rfl (lv_room (Nat.le_of_ble_eq_true rfl)) d_MO_settle_9 ⟨Nat.le_of_ble_eq_true rfl, Nat.le_of_ble_eq_true rfl⟩) hD hS hA (fun T H locs hr hP hD hS => ?_)
  have hT4 : T 4 (2 * f) = S 4 (2 * f) := by rw [hr.1.2.2.1, va_up_ne _ _ (by omega)]
  refine lv_aload_n hx hb d_MO_settle_12 rfl (lv_at hl 0 rfl) ?_
  refine va_get (C := "PageDriveModel") (T := F_MO) (N := 11) hx hb hg iw_MO hown hK hP (0) mw_g0 rfl 8 (by decide) (hg (Cond.fieldLink "PageDriveModel" 27 "PageDriveModel" "lows" "[I") (wG_m10 (List.mem_of_getElem? (i := 31) rfl))) (fun _ h9 => h9) rfl d_MO_settle_13 ?_
  refine lv_iload_n hx hb d_MO_settle_16 rfl (lv_at hl 1 rfl) ?_
  refine lv_aload_n hx hb d_MO_settle_17 rfl (lv_at hl 0 rfl) ?_
  refine va_get (C := "PageDriveModel") (T := F_MO) (N := 11) hx hb hg iw_MO hown hK hP (0) mw_g0 rfl 6 (by decide) (hg (Cond.fieldLink "PageDriveModel" 20 "PageDriveModel" "sizes" "[I") (wG_m10 (List.mem_of_getElem? (i := 29) rfl))) (fun _ h9 => h9) rfl d_MO_settle_18 ?_
  refine lv_iconst (v := nI 2) hx hb d_MO_settle_21 (by decide) ?_
  refine lv_iload_n hx hb d_MO_settle_22 rfl (lv_at hl 1 rfl) ?_
  refine pq_imul hx hb d_MO_settle_23 ?_
  refine pq_iald hx hb hK hP 4 0 mw_g4 rfl (by omega) (by omega) d_MO_settle_24 ?_
  refine pq_top (y := nI (S 4 (2 * f))) (by rw [hT4]) ?_
  refine pm_low hx hb hK hP hD hS (by omega) rfl d_MO_settle_25 (fun H locs hP hD hS => ?_)
  generalize eS1 : pd_st T 6 f (S 4 (2 * f)) = S1 at hP hD
  exact W.vret hx hb hret (fun t9 ht9 hW9 => ⟨⟨_, rfl, ⟨⟨T, hr.1, by rw [eS1]; exact pd_sa_rf _⟩, by rw [← eS1, pd_bk _ (by decide), hr.2.1]⟩, by rw [ht9]; exact hP, va_K.moved hW9.alike hK, hD⟩, hS.F ht9⟩) hS.2.2 d_MO_settle_26
set_option maxHeartbeats 4000000 in
set_option maxRecDepth 100000 in
/-- present() -/
theorem c_MO_present (l : Launch) (dC : Nat → ClassId) (dI : Nat → Nat → Nat) (cI cB cE cL cZ : ClassId) (n : Nat) (am : Nat → Nat) (S : pdS) (h5 : ∀ d, d < 32 → S 5 d ≤ 1) (sz : Nat) : CMi l (dC, dI) (pw_ty cI cB cE cL cZ) y_MO_present w_MO_present ({ frames := 0, cells := 0, slots := 0, locals := 0 }) [.ref (am 0)] (mw n am cI cL cZ S) (fun _ : Unit => mw n am cI cL cZ S) sz (fun r _ => r = nI (pd_th S)) := by
  refine Met.ofW (cc := b_MO_present) (maxL := 3) (ret := (some .int)) (by decide) rfl ?_
  intro p e s m args below meth c s₁ B hml hv
  obtain ⟨rfl, hsz, hP, hK, hD0⟩ := hv
  have hx := B.exec
  have hb := B.bytes
  have hret := B.returns
  have hts := atoms_spec (ws := w_MO_present) B.pre
  have hg : ∀ w ∈ wsG, w.before _ s = true := fun w h => hts w (List.mem_cons_of_mem _ h)
  have hown : s.vm.findClass "PageDriveModel" = some m.cls := findClass_of_methodNamed B.named
  have hlocks := B.notSynchronized
  subst hsz
  have hD := hD0.self (sz := s.heap.size)
  generalize hAe : va_A (mw n am cI cL cZ S) s.heap.size = A at hD ⊢
  have hA : ∀ q : Nat, s.heap.size ≤ q → A q := fun q h => by rw [← hAe]; exact Or.inr h
  have hS : va_S A s.heap s.heap [] := va_S.rf
  have hl := lv_entry ([.ref (am 0)]) (n := 3) (Nat.le_of_ble_eq_true rfl)
  rw [lg_entry_eq]
  generalize (lg_sl ([.ref (am 0)]) ++ List.replicate (3 - (lg_sl ([.ref (am 0)])).length) Slot.unset).toArray = ls at hl ⊢
  have hl : lv_has ls 3 [(0, .ref (am 0))] := hl
  refine lv_iconst (v := nI 0) hx hb d_MO_present_0 (by decide) ?_
  refine lv_istore_n (lv' := [(1, .int (nI 0)), (0, .ref (am 0))]) hx hb d_MO_present_1 rfl hl (by decide) rfl (fun ls hl => ?_)
  refine lv_iconst (v := nI 0) hx hb d_MO_present_2 (by decide) ?_
  refine lv_istore_n (lv' := [(2, .int (nI 0)), (1, .int (nI 0)), (0, .ref (am 0))]) hx hb d_MO_present_3 rfl hl (by decide) rfl (fun ls hl => ?_)
  refine pw_loop (fun mm H locs ls => ∃ k : Nat, mm = 16 - k ∧ k ≤ 16 ∧ va_P (dC, dI) pwCl (mw n am cI cL cZ S) H ∧ va_D A (mw n am cI cL cZ S) ∧ va_S A s.heap H locs ∧ lv_has ls 3 [(2, .int (nI k)), (1, .int (nI (pd_sm (fun i => S 5 (2 * i)) k))), (0, .ref (am 0))]) ?_ _ _ _ _ ⟨0, rfl, by omega, hP, hD, hS, hl⟩
  rintro mm H locs ls ⟨k, hmm, hk, hP, hD, hS, hl⟩ ih
  refine lv_iload_n hx hb d_MO_present_4 rfl (lv_at hl 0 rfl) ?_
  refine lv_bipush (v := nI 16) hx hb d_MO_present_5 (by decide) ?_
  refine pq_icmp_ge (tgt := 35) hx hb (by omega) (by omega) d_MO_present_7 (by decide) (fun h1 => ?_) (fun h1 => ?_)
  · have hk16 : k = 16 := by omega
    subst hk16
    refine lv_iload_n hx hb d_MO_present_35 rfl (lv_at hl 1 rfl) ?_
    exact W.iret (v := (nI (pd_sm (fun i => S 5 (2 * i)) 16))) hx hb hret (fun t9 ht9 hW9 => ⟨⟨_, (), rfl, rfl, by rw [ht9]; exact hP, va_K.moved hW9.alike hK, hD⟩, hS.F ht9⟩) hS.2.2 d_MO_present_36
  · have h50 := h5 (2 * k) (by omega)
    refine lv_iload_n hx hb d_MO_present_10 rfl (lv_at hl 1 rfl) ?_
    refine lv_aload_n hx hb d_MO_present_11 rfl (lv_at hl 2 rfl) ?_
    refine va_get (C := "PageDriveModel") (T := F_MO) (N := 11) hx hb hg iw_MO hown hK hP (0) mw_g0 rfl 7 (by decide) (hg (Cond.fieldLink "PageDriveModel" 23 "PageDriveModel" "there" "[Z") (wG_m10 (List.mem_of_getElem? (i := 30) rfl))) (fun _ h9 => h9) rfl d_MO_present_12 ?_
    refine lv_iconst (v := nI 2) hx hb d_MO_present_15 (by decide) ?_
    refine lv_iload_n hx hb d_MO_present_16 rfl (lv_at hl 0 rfl) ?_
    refine pq_imul hx hb d_MO_present_17 ?_
    refine pq_zald hx hb hK hP 5 4 mw_g5 rfl (by omega) (by omega) d_MO_present_18 ?_
    refine pq_if_eq (tgt := 26) hx hb (by omega) d_MO_present_19 (by decide) (fun h2 => ?_) (fun h2 => ?_)
    · refine lv_iconst (v := nI 0) hx hb d_MO_present_26 (by decide) ?_
      refine pq_iadd hx hb d_MO_present_27 ?_
      refine lv_istore_n (lv' := [(1, .int (nI ((pd_sm (fun i => S 5 (2 * i)) k) + 0))), (2, .int (nI k)), (0, .ref (am 0))]) hx hb d_MO_present_28 rfl hl (by decide) rfl (fun ls hl => ?_)
      refine lv_iinc (v := (nI (k + 1))) (lv' := [(2, .int (nI (k + 1))), (1, .int (nI ((pd_sm (fun i => S 5 (2 * i)) k) + 0))), (0, .ref (am 0))]) hx hb d_MO_present_29 hl (k := 1) rfl (pq_inc _) (by decide) rfl (fun ls hl => ?_)
      refine lv_goto (tgt := 4) hx hb d_MO_present_32 (by decide) ?_
      exact ih _ _ _ _ (by omega) ⟨k + 1, rfl, by omega, hP, hD, hS, by simp only [pd_sm]; rw [h2]; exact hl⟩
    · refine lv_iconst (v := nI 1) hx hb d_MO_present_22 (by decide) ?_
      refine lv_goto (tgt := 27) hx hb d_MO_present_23 (by decide) ?_
      refine pq_iadd hx hb d_MO_present_27 ?_
      refine lv_istore_n (lv' := [(1, .int (nI ((pd_sm (fun i => S 5 (2 * i)) k) + 1))), (2, .int (nI k)), (0, .ref (am 0))]) hx hb d_MO_present_28 rfl hl (by decide) rfl (fun ls hl => ?_)
      refine lv_iinc (v := (nI (k + 1))) (lv' := [(2, .int (nI (k + 1))), (1, .int (nI ((pd_sm (fun i => S 5 (2 * i)) k) + 1))), (0, .ref (am 0))]) hx hb d_MO_present_29 hl (k := 1) rfl (pq_inc _) (by decide) rfl (fun ls hl => ?_)
      refine lv_goto (tgt := 4) hx hb d_MO_present_32 (by decide) ?_
      exact ih _ _ _ _ (by omega) ⟨k + 1, rfl, by omega, hP, hD, hS, by simp only [pd_sm]; rw [show S 5 (2 * k) = 1 by omega]; exact hl⟩
set_option maxHeartbeats 4000000 in
set_option maxRecDepth 100000 in
/-- sharedPages(f) -/
theorem c_MO_sharedPages (l : Launch) (dC : Nat → ClassId) (dI : Nat → Nat → Nat) (cI cB cE cL cZ : ClassId) (n : Nat) (am : Nat → Nat) (S : pdS) (f : Nat) (hf : f < 16) (hv : pd_v 1024 S) (sz : Nat) : CMi l (dC, dI) (pw_ty cI cB cE cL cZ) y_MO_sharedPages w_MO_sharedPages ({ frames := 2, cells := 0, slots := 0, locals := 42 }) [.ref (am 0), .int (nI f)] (mw n am cI cL cZ S) (mw n am cI cL cZ) sz (fun r S2 => r = nI (pd_shd S (2 * f)) ∧ ∀ b, b ≠ 1 → S2 b = S b) := by
  refine Met.ofW (cc := b_MO_sharedPages) (maxL := 4) (ret := (some .int)) (by decide) rfl ?_
  intro p e s m args below meth c s₁ B hml hv
  obtain ⟨rfl, hsz, hP, hK, hD0⟩ := hv
  have hx := B.exec
  have hb := B.bytes
  have hret := B.returns
  have hts := atoms_spec (ws := w_MO_sharedPages) B.pre
  have hg : ∀ w ∈ wsG, w.before _ s = true := fun w h => hts w (List.mem_cons_of_mem _ h)
  have hown : s.vm.findClass "PageDriveModel" = some m.cls := findClass_of_methodNamed B.named
  have hlocks := B.notSynchronized
  subst hsz
  have hD := hD0.self (sz := s.heap.size)
  generalize hAe : va_A (mw n am cI cL cZ S) s.heap.size = A at hD ⊢
  have hA : ∀ q : Nat, s.heap.size ≤ q → A q := fun q h => by rw [← hAe]; exact Or.inr h
  have hS : va_S A s.heap s.heap [] := va_S.rf
  have hl := lv_entry ([.ref (am 0), .int (nI f)]) (n := 4) (Nat.le_of_ble_eq_true rfl)
  rw [lg_entry_eq]
  generalize (lg_sl ([.ref (am 0), .int (nI f)]) ++ List.replicate (4 - (lg_sl ([.ref (am 0), .int (nI f)])).length) Slot.unset).toArray = ls at hl ⊢
  have hl : lv_has ls 4 [(0, .ref (am 0)), (1, .int (nI f))] := hl
  have hs4 := (hv.1 (2 * f) (by omega)).1
  have h400 : pd_pf (S 4 (2 * f)) ≤ 400 := by unfold pd_pf; omega
  refine lv_aload_n hx hb d_MO_sharedPages_0 rfl (lv_at hl 0 rfl) ?_
  refine pw_calli (va_runV (As := []) (rest := []) ⟨hx, hb, hml, hown, hg⟩ (c_MO_look l dC dI cI cB cE cL cZ n am S hv s.heap.size) (cwV 0 hg (gi_V (fun _ h => h) (wG_m12 (List.mem_of_getElem? (i := 1) rfl)) (wG_m12 (List.mem_of_getElem? (i := 2) rfl)) (wG_m14 (List.mem_of_getElem? (i := 12) rfl)) (wG_m1 (List.mem_of_getElem? (i := 6) rfl)) (wG_m12 (List.mem_of_getElem? (i := 3) rfl))) rfl rfl rfl (by decide +kernel) ⟨Nat.le_of_ble_eq_true rfl, Nat.le_of_ble_eq_true rfl⟩) (pw_pv hK hP hD (va_recv hK hP (ci := 4) (q0 := 0) rfl mw_g0) []) rfl rfl hl.1 rfl (lv_room (Nat.le_of_ble_eq_true rfl)) d_MO_sharedPages_1 ⟨Nat.le_of_ble_eq_true rfl, Nat.le_of_ble_eq_true rfl⟩) hD hS hA (fun r0 T H locs hr hP hD hS => ?_)
  obtain ⟨-, hc, hT⟩ := hr
  have hT4 : T 4 (2 * f) = S 4 (2 * f) := by rw [hT 4 (by decide)]
  have hTr : T (8 + 2 * f) = S (8 + 2 * f) := hT _ (by omega)
  refine lv_pop hx hb d_MO_sharedPages_4 rfl ?_
  refine lv_iconst (v := nI 0) hx hb d_MO_sharedPages_5 (by decide) ?_
  refine lv_istore_n (lv' := [(2, .int (nI 0)), (0, .ref (am 0)), (1, .int (nI f))]) hx hb d_MO_sharedPages_6 rfl hl (by decide) rfl (fun ls hl => ?_)
  refine lv_iconst (v := nI 0) hx hb d_MO_sharedPages_7 (by decide) ?_
  refine lv_istore_n (lv' := [(3, .int (nI 0)), (2, .int (nI 0)), (0, .ref (am 0)), (1, .int (nI f))]) hx hb d_MO_sharedPages_8 rfl hl (by decide) rfl (fun ls hl => ?_)
  refine pw_loop (fun mm H locs ls => ∃ k : Nat, mm = pd_pf (S 4 (2 * f)) - k ∧ k ≤ pd_pf (S 4 (2 * f)) ∧ va_P (dC, dI) pwCl (mw n am cI cL cZ T) H ∧ va_D A (mw n am cI cL cZ T) ∧ va_S A s.heap H locs ∧ lv_has ls 4 [(3, .int (nI k)), (2, .int (nI (pd_sm (fun k => if 1 < pd_ct S (S (8 + 2 * f) k) then 1 else 0) k))), (0, .ref (am 0)), (1, .int (nI f))]) ?_ _ _ _ _ ⟨0, rfl, by omega, hP, hD, hS, hl⟩
  rintro mm H locs ls ⟨k, hmm, hk, hP, hD, hS, hl⟩ ih
  refine lv_iload_n hx hb d_MO_sharedPages_9 rfl (lv_at hl 0 rfl) ?_
  refine lv_aload_n hx hb d_MO_sharedPages_10 rfl (lv_at hl 2 rfl) ?_
  refine va_get (C := "PageDriveModel") (T := F_MO) (N := 11) hx hb hg iw_MO hown hK hP (0) mw_g0 rfl 6 (by decide) (hg (Cond.fieldLink "PageDriveModel" 20 "PageDriveModel" "sizes" "[I") (wG_m10 (List.mem_of_getElem? (i := 29) rfl))) (fun _ h9 => h9) rfl d_MO_sharedPages_11 ?_
  refine lv_iconst (v := nI 2) hx hb d_MO_sharedPages_14 (by decide) ?_
  refine lv_iload_n hx hb d_MO_sharedPages_15 rfl (lv_at hl 3 rfl) ?_
  refine pq_imul hx hb d_MO_sharedPages_16 ?_
  refine pq_iald hx hb hK hP 4 0 mw_g4 rfl (by omega) (by omega) d_MO_sharedPages_17 ?_
  refine pq_top (y := nI (S 4 (2 * f))) (by rw [hT4]) ?_
  refine pw_callip (va_runS (As := [.int (nI (S 4 (2 * f)))]) (rest := [.int (nI k)]) ⟨hx, hb, hml, hown, hg⟩ (c_MO_needed l dC dI cI cB cE cL cZ (mw n am cI cL cZ T) (S 4 (2 * f)) (by omega) H.size) (cwS 1 hg (gi_S (fun _ h => h) (wG_m12 (List.mem_of_getElem? (i := 4) rfl)) (wG_m12 (List.mem_of_getElem? (i := 5) rfl)) (wG_m1 (List.mem_of_getElem? (i := 6) rfl)) (wG_m12 (List.mem_of_getElem? (i := 6) rfl))) rfl rfl rfl (by decide +kernel) ⟨Nat.le_of_ble_eq_true rfl, Nat.le_of_ble_eq_true rfl⟩) (pw_ps hK hP hD [.int (nI (S 4 (2 * f)))]) rfl rfl hl.1 rfl (lv_room (Nat.le_of_ble_eq_true rfl)) d_MO_sharedPages_18 ⟨Nat.le_of_ble_eq_true rfl, Nat.le_of_ble_eq_true rfl⟩) hD hS hA (fun r1 H locs hr hP hD hS => ?_)
  subst hr
  refine pq_icmp_ge (tgt := 59) hx hb (by omega) (by omega) d_MO_sharedPages_21 (by decide) (fun h1 => ?_) (fun h1 => ?_)
  · have hkk : k = pd_pf (S 4 (2 * f)) := by omega
    subst hkk
    refine lv_iload_n hx hb d_MO_sharedPages_59 rfl (lv_at hl 1 rfl) ?_
    exact W.iret (v := (nI (pd_sm (fun k => if 1 < pd_ct S (S (8 + 2 * f) k) then 1 else 0) (pd_pf (S 4 (2 * f)))))) hx hb hret (fun t9 ht9 hW9 => ⟨⟨_, T, rfl, ⟨rfl, hT⟩, by rw [ht9]; exact hP, va_K.moved hW9.alike hK, hD⟩, hS.F ht9⟩) hS.2.2 d_MO_sharedPages_60
  · have hpg := hv.2.1 (2 * f) k (by omega) h1
    have hs1 := hc _ hpg
    have hbd := pd_ct_bd hv (S (8 + 2 * f) k)
    refine lv_iload_n hx hb d_MO_sharedPages_24 rfl (lv_at hl 1 rfl) ?_
    refine lv_aload_n hx hb d_MO_sharedPages_25 rfl (lv_at hl 2 rfl) ?_
    refine va_get (C := "PageDriveModel") (T := F_MO) (N := 11) hx hb hg iw_MO hown hK hP (0) mw_g0 rfl 10 (by decide) (hg (Cond.fieldLink "PageDriveModel" 30 "PageDriveModel" "seen" "[I") (wG_m10 (List.mem_of_getElem? (i := 33) rfl))) (fun _ h9 => h9) rfl d_MO_sharedPages_26 ?_
    refine lv_aload_n hx hb d_MO_sharedPages_29 rfl (lv_at hl 2 rfl) ?_
    refine va_get (C := "PageDriveModel") (T := F_MO) (N := 11) hx hb hg iw_MO hown hK hP (0) mw_g0 rfl 5 (by decide) (hg (Cond.fieldLink "PageDriveModel" 17 "PageDriveModel" "rows" "[I") (wG_m10 (List.mem_of_getElem? (i := 28) rfl))) (fun _ h9 => h9) rfl d_MO_sharedPages_30 ?_
    refine lv_sipush (v := nI 800) hx hb d_MO_sharedPages_33 (by decide) ?_
    refine lv_iload_n hx hb d_MO_sharedPages_36 rfl (lv_at hl 3 rfl) ?_
    refine pq_imul hx hb d_MO_sharedPages_37 ?_
    refine lv_iload_n hx hb d_MO_sharedPages_38 rfl (lv_at hl 0 rfl) ?_
    refine pq_iadd hx hb d_MO_sharedPages_39 ?_
    refine pm_rowld (d := 2 * f) (k := k) hx hb hK hP (by omega) (by omega) (by omega) rfl d_MO_sharedPages_40 ?_
    refine pq_top (y := nI (S (8 + 2 * f) k)) (by rw [hTr]) ?_
    refine pq_iald hx hb hK hP 7 0 mw_g7 rfl (by omega) (by omega) d_MO_sharedPages_41 ?_
    refine lv_iconst (v := nI 1) hx hb d_MO_sharedPages_42 (by decide) ?_
    refine pq_icmp_le (tgt := 50) hx hb (by omega) (by omega) d_MO_sharedPages_43 (by decide) (fun h2 => ?_) (fun h2 => ?_)
    · refine lv_iconst (v := nI 0) hx hb d_MO_sharedPages_50 (by decide) ?_
      refine pq_iadd hx hb d_MO_sharedPages_51 ?_
      refine lv_istore_n (lv' := [(2, .int (nI ((pd_sm (fun k => if 1 < pd_ct S (S (8 + 2 * f) k) then 1 else 0) k) + 0))), (3, .int (nI k)), (0, .ref (am 0)), (1, .int (nI f))]) hx hb d_MO_sharedPages_52 rfl hl (by decide) rfl (fun ls hl => ?_)
      refine lv_iinc (v := (nI (k + 1))) (lv' := [(3, .int (nI (k + 1))), (2, .int (nI ((pd_sm (fun k => if 1 < pd_ct S (S (8 + 2 * f) k) then 1 else 0) k) + 0))), (0, .ref (am 0)), (1, .int (nI f))]) hx hb d_MO_sharedPages_53 hl (k := 1) rfl (pq_inc _) (by decide) rfl (fun ls hl => ?_)
      refine lv_goto (tgt := 9) hx hb d_MO_sharedPages_56 (by decide) ?_
      exact ih _ _ _ _ (by omega) ⟨k + 1, rfl, by omega, hP, hD, hS, by simp only [pd_sm]; rw [if_neg (by omega)]; exact hl⟩
    · refine lv_iconst (v := nI 1) hx hb d_MO_sharedPages_46 (by decide) ?_
      refine lv_goto (tgt := 51) hx hb d_MO_sharedPages_47 (by decide) ?_
      refine pq_iadd hx hb d_MO_sharedPages_51 ?_
      refine lv_istore_n (lv' := [(2, .int (nI ((pd_sm (fun k => if 1 < pd_ct S (S (8 + 2 * f) k) then 1 else 0) k) + 1))), (3, .int (nI k)), (0, .ref (am 0)), (1, .int (nI f))]) hx hb d_MO_sharedPages_52 rfl hl (by decide) rfl (fun ls hl => ?_)
      refine lv_iinc (v := (nI (k + 1))) (lv' := [(3, .int (nI (k + 1))), (2, .int (nI ((pd_sm (fun k => if 1 < pd_ct S (S (8 + 2 * f) k) then 1 else 0) k) + 1))), (0, .ref (am 0)), (1, .int (nI f))]) hx hb d_MO_sharedPages_53 hl (k := 1) rfl (pq_inc _) (by decide) rfl (fun ls hl => ?_)
      refine lv_goto (tgt := 9) hx hb d_MO_sharedPages_56 (by decide) ?_
      exact ih _ _ _ _ (by omega) ⟨k + 1, rfl, by omega, hP, hD, hS, by simp only [pd_sm]; rw [if_pos (by omega)]; exact hl⟩
set_option maxHeartbeats 4000000 in
set_option maxRecDepth 100000 in
/-- breaks(f, keep) -/
theorem c_MO_breaks (l : Launch) (dC : Nat → ClassId) (dI : Nat → Nat → Nat) (cI cB cE cL cZ : ClassId) (n : Nat) (am : Nat → Nat) (S : pdS) (f keep : Nat) (hf : f < 16) (hv : pd_v 1024 S) (hlo : S 6 f ≤ S 4 (2 * f)) (hkp : keep < 2 ^ 31) (sz : Nat) : CMv l (dC, dI) (pw_ty cI cB cE cL cZ) y_MO_breaks w_MO_breaks ({ frames := 2, cells := 0, slots := 0, locals := 44 }) [.ref (am 0), .int (nI f), .int (nI keep)] (mw n am cI cL cZ S) (mw n am cI cL cZ) sz (fun S2 => pd_fal S S2 f keep ∧ S2 7 = S 7) := by
  refine Met.ofW (cc := b_MO_breaks) (maxL := 3) (ret := none) (by decide) rfl ?_
  intro p e s m args below meth c s₁ B hml hv
  obtain ⟨rfl, hsz, hP, hK, hD0⟩ := hv
  have hx := B.exec
  have hb := B.bytes
  have hret := B.returns
  have hts := atoms_spec (ws := w_MO_breaks) B.pre
  have hg : ∀ w ∈ wsG, w.before _ s = true := fun w h => hts w (List.mem_cons_of_mem _ h)
  have hown : s.vm.findClass "PageDriveModel" = some m.cls := findClass_of_methodNamed B.named
  have hlocks := B.notSynchronized
  subst hsz
  have hD := hD0.self (sz := s.heap.size)
  generalize hAe : va_A (mw n am cI cL cZ S) s.heap.size = A at hD ⊢
  have hA : ∀ q : Nat, s.heap.size ≤ q → A q := fun q h => by rw [← hAe]; exact Or.inr h
  have hS : va_S A s.heap s.heap [] := va_S.rf
  have hl := lv_entry ([.ref (am 0), .int (nI f), .int (nI keep)]) (n := 3) (Nat.le_of_ble_eq_true rfl)
  rw [lg_entry_eq]
  generalize (lg_sl ([.ref (am 0), .int (nI f), .int (nI keep)]) ++ List.replicate (3 - (lg_sl ([.ref (am 0), .int (nI f), .int (nI keep)])).length) Slot.unset).toArray = ls at hl ⊢
  have hl : lv_has ls 3 [(0, .ref (am 0)), (1, .int (nI f)), (2, .int (nI keep))] := hl
  have hs4 := (hv.1 (2 * f) (by omega)).1
  have hs4s := (hv.1 (2 * f + 1) (by omega)).1
  have hs5s := (hv.1 (2 * f + 1) (by omega)).2.1
  refine lv_iload_n hx hb d_MO_breaks_0 rfl (lv_at hl 2 rfl) ?_
  refine pq_if_ne (tgt := 19) hx hb (by omega) d_MO_breaks_1 (by decide) (fun h1 => ?_) (fun h1 => ?_)
  · refine lv_aload_n hx hb d_MO_breaks_19 rfl (lv_at hl 0 rfl) ?_
    refine va_get (C := "PageDriveModel") (T := F_MO) (N := 11) hx hb hg iw_MO hown hK hP (0) mw_g0 rfl 6 (by decide) (hg (Cond.fieldLink "PageDriveModel" 20 "PageDriveModel" "sizes" "[I") (wG_m10 (List.mem_of_getElem? (i := 29) rfl))) (fun _ h9 => h9) rfl d_MO_breaks_20 ?_
    refine lv_iconst (v := nI 2) hx hb d_MO_breaks_23 (by decide) ?_
    refine lv_iload_n hx hb d_MO_breaks_24 rfl (lv_at hl 1 rfl) ?_
    refine pq_imul hx hb d_MO_breaks_25 ?_
    refine pq_iald hx hb hK hP 4 0 mw_g4 rfl (by omega) (by omega) d_MO_breaks_26 ?_
    refine lv_i2l hx hb d_MO_breaks_27 rfl ?_
    refine pq_topl (y := lN (S 4 (2 * f))) (nI_l (by omega)) ?_
    refine lv_aload_n hx hb d_MO_breaks_28 rfl (lv_at hl 0 rfl) ?_
    refine va_get (C := "PageDriveModel") (T := F_MO) (N := 11) hx hb hg iw_MO hown hK hP (0) mw_g0 rfl 8 (by decide) (hg (Cond.fieldLink "PageDriveModel" 27 "PageDriveModel" "lows" "[I") (wG_m10 (List.mem_of_getElem? (i := 31) rfl))) (fun _ h9 => h9) rfl d_MO_breaks_29 ?_
    refine lv_iload_n hx hb d_MO_breaks_32 rfl (lv_at hl 1 rfl) ?_
    refine pq_iald hx hb hK hP 6 0 mw_g6 rfl (by omega) (by omega) d_MO_breaks_33 ?_
    refine lv_i2l hx hb d_MO_breaks_34 rfl ?_
    refine pq_topl (y := lN (S 6 f)) (nI_l (by omega)) ?_
    refine lv_iload_n hx hb d_MO_breaks_35 rfl (lv_at hl 2 rfl) ?_
    refine lv_i2l hx hb d_MO_breaks_36 rfl ?_
    refine pq_topl (y := lN keep) (nI_l hkp) ?_
    refine lv_lconst (v := 1) hx hb d_MO_breaks_37 (by decide) ?_
    refine lv_lsub hx hb d_MO_breaks_38 ?_
    refine pq_topl (y := lN (keep - 1)) (by rw [show (1 : Int64) = lN 1 from rfl, lN_sub (by omega)]) ?_
    refine lv_ladd hx hb d_MO_breaks_39 ?_
    refine pq_topl (y := lN (S 6 f + (keep - 1))) (lN_add ..) ?_
    refine W.lcmp hx hb d_MO_breaks_40 ?_
    refine lv_if_le (tgt := 62) hx hb d_MO_breaks_41 (by decide) (fun h2 => ?_) (fun h2 => ?_)
    · have h3 := (pd_lgle (by omega) (by omega)).mp h2
      refine lv_aload_n hx hb d_MO_breaks_62 rfl (lv_at hl 0 rfl) ?_
      refine lv_iload_n hx hb d_MO_breaks_63 rfl (lv_at hl 1 rfl) ?_
      refine pw_callv (va_runV (As := [.int (nI f)]) (rest := []) ⟨hx, hb, hml, hown, hg⟩ (c_MO_settle l dC dI cI cB cE cL cZ n am S f hf hv s.heap.size) (cwV 1 hg (gi_V (fun _ h => h) (wG_m12 (List.mem_of_getElem? (i := 39) rfl)) (wG_m13 (List.mem_of_getElem? (i := 0) rfl)) (wG_m14 (List.mem_of_getElem? (i := 18) rfl)) (wG_m1 (List.mem_of_getElem? (i := 6) rfl)) (wG_m13 (List.mem_of_getElem? (i := 1) rfl))) rfl rfl rfl (by decide +kernel) ⟨Nat.le_of_ble_eq_true rfl, Nat.le_of_ble_eq_true rfl⟩) (pw_pv hK hP hD (va_recv hK hP (ci := 4) (q0 := 0) rfl mw_g0) [.int (nI f)]) rfl rfl hl.1 rfl (lv_room (Nat.le_of_ble_eq_true rfl)) d_MO_breaks_64 ⟨Nat.le_of_ble_eq_true rfl, Nat.le_of_ble_eq_true rfl⟩) hD hS hA (fun S2 H locs hr hP hD hS => ?_)
      exact W.vret hx hb hret (fun t9 ht9 hW9 => ⟨⟨_, rfl, ⟨⟨S, Or.inr (Or.inr ⟨by omega, by omega, pd_sa_rf S⟩), hr.1⟩, hr.2⟩, by rw [ht9]; exact hP, va_K.moved hW9.alike hK, hD⟩, hS.F ht9⟩) hS.2.2 d_MO_breaks_67
    · have h3 : S 6 f + (keep - 1) < S 4 (2 * f) := Nat.not_le.mp fun q => h2 ((pd_lgle (by omega) (by omega)).mpr q)
      refine lv_aload_n hx hb d_MO_breaks_44 rfl (lv_at hl 0 rfl) ?_
      refine va_get (C := "PageDriveModel") (T := F_MO) (N := 11) hx hb hg iw_MO hown hK hP (0) mw_g0 rfl 6 (by decide) (hg (Cond.fieldLink "PageDriveModel" 20 "PageDriveModel" "sizes" "[I") (wG_m10 (List.mem_of_getElem? (i := 29) rfl))) (fun _ h9 => h9) rfl d_MO_breaks_45 ?_
      refine lv_iconst (v := nI 2) hx hb d_MO_breaks_48 (by decide) ?_
      refine lv_iload_n hx hb d_MO_breaks_49 rfl (lv_at hl 1 rfl) ?_
      refine pq_imul hx hb d_MO_breaks_50 ?_
      refine lv_aload_n hx hb d_MO_breaks_51 rfl (lv_at hl 0 rfl) ?_
      refine va_get (C := "PageDriveModel") (T := F_MO) (N := 11) hx hb hg iw_MO hown hK hP (0) mw_g0 rfl 8 (by decide) (hg (Cond.fieldLink "PageDriveModel" 27 "PageDriveModel" "lows" "[I") (wG_m10 (List.mem_of_getElem? (i := 31) rfl))) (fun _ h9 => h9) rfl d_MO_breaks_52 ?_
      refine lv_iload_n hx hb d_MO_breaks_55 rfl (lv_at hl 1 rfl) ?_
      refine pq_iald hx hb hK hP 6 0 mw_g6 rfl (by omega) (by omega) d_MO_breaks_56 ?_
      refine lv_iload_n hx hb d_MO_breaks_57 rfl (lv_at hl 2 rfl) ?_
      refine pq_iadd hx hb d_MO_breaks_58 ?_
      refine lv_iconst (v := nI 1) hx hb d_MO_breaks_59 (by decide) ?_
      refine pq_isub hx hb (by omega) d_MO_breaks_60 ?_
      refine pm_size hx hb hK hP hD hS (by omega) rfl d_MO_breaks_61 (fun H locs hP hD hS => ?_)
      generalize eS1 : pd_st S 4 (2 * f) (((S 6 f) + keep) - 1) = S1 at hP hD
      have hsh : pd_sh S S1 (2 * f) (S 6 f + keep - 1) := by rw [← eS1]; exact pd_sh_m
      refine lv_aload_n hx hb d_MO_breaks_62 rfl (lv_at hl 0 rfl) ?_
      refine lv_iload_n hx hb d_MO_breaks_63 rfl (lv_at hl 1 rfl) ?_
      refine pw_callv (va_runV (As := [.int (nI f)]) (rest := []) ⟨hx, hb, hml, hown, hg⟩ (c_MO_settle l dC dI cI cB cE cL cZ n am S1 f hf (pd_sh_v hsh (by omega) hv) H.size) (cwV 1 hg (gi_V (fun _ h => h) (wG_m12 (List.mem_of_getElem? (i := 39) rfl)) (wG_m13 (List.mem_of_getElem? (i := 0) rfl)) (wG_m14 (List.mem_of_getElem? (i := 18) rfl)) (wG_m1 (List.mem_of_getElem? (i := 6) rfl)) (wG_m13 (List.mem_of_getElem? (i := 1) rfl))) rfl rfl rfl (by decide +kernel) ⟨Nat.le_of_ble_eq_true rfl, Nat.le_of_ble_eq_true rfl⟩) (pw_pv hK hP hD (va_recv hK hP (ci := 4) (q0 := 0) rfl mw_g0) [.int (nI f)]) rfl rfl hl.1 rfl (lv_room (Nat.le_of_ble_eq_true rfl)) d_MO_breaks_64 ⟨Nat.le_of_ble_eq_true rfl, Nat.le_of_ble_eq_true rfl⟩) hD hS hA (fun S9 H locs hr hP hD hS => ?_)
      exact W.vret hx hb hret (fun t9 ht9 hW9 => ⟨⟨_, rfl, ⟨⟨S1, Or.inr (Or.inl ⟨by omega, by omega, hsh⟩), hr.1⟩, by rw [hr.2, ← eS1, pd_bk _ (by decide)]⟩, by rw [ht9]; exact hP, va_K.moved hW9.alike hK, hD⟩, hS.F ht9⟩) hS.2.2 d_MO_breaks_67
  · refine lv_aload_n hx hb d_MO_breaks_4 rfl (lv_at hl 0 rfl) ?_
    refine lv_iconst (v := nI 2) hx hb d_MO_breaks_5 (by decide) ?_
    refine lv_iload_n hx hb d_MO_breaks_6 rfl (lv_at hl 1 rfl) ?_
    refine pq_imul hx hb d_MO_breaks_7 ?_
    refine lv_iconst (v := nI 2) hx hb d_MO_breaks_8 (by decide) ?_
    refine lv_iload_n hx hb d_MO_breaks_9 rfl (lv_at hl 1 rfl) ?_
    refine pq_imul hx hb d_MO_breaks_10 ?_
    refine lv_iconst (v := nI 1) hx hb d_MO_breaks_11 (by decide) ?_
    refine pq_iadd hx hb d_MO_breaks_12 ?_
    refine pw_callv (va_runV (As := [.int (nI (2 * f)), .int (nI ((2 * f) + 1))]) (rest := []) ⟨hx, hb, hml, hown, hg⟩ (c_MO_become l dC dI cI cB cE cL cZ n am S (2 * f) (2 * f + 1) (by omega) (by omega) (by omega) hs4s hs5s s.heap.size) (cwV 2 hg (gi_V (fun _ h => h) (wG_m12 (List.mem_of_getElem? (i := 29) rfl)) (wG_m12 (List.mem_of_getElem? (i := 30) rfl)) (wG_m14 (List.mem_of_getElem? (i := 16) rfl)) (wG_m1 (List.mem_of_getElem? (i := 6) rfl)) (wG_m12 (List.mem_of_getElem? (i := 31) rfl))) rfl rfl rfl (by decide +kernel) ⟨Nat.le_of_ble_eq_true rfl, Nat.le_of_ble_eq_true rfl⟩) (pw_pv hK hP hD (va_recv hK hP (ci := 4) (q0 := 0) rfl mw_g0) [.int (nI (2 * f)), .int (nI ((2 * f) + 1))]) rfl rfl hl.1 rfl (lv_room (Nat.le_of_ble_eq_true rfl)) d_MO_breaks_13 ⟨Nat.le_of_ble_eq_true rfl, Nat.le_of_ble_eq_true rfl⟩) hD hS hA (fun T H locs hrT hP hD hS => ?_)
    refine lv_goto (tgt := 62) hx hb d_MO_breaks_16 (by decide) ?_
    refine lv_aload_n hx hb d_MO_breaks_62 rfl (lv_at hl 0 rfl) ?_
    refine lv_iload_n hx hb d_MO_breaks_63 rfl (lv_at hl 1 rfl) ?_
    refine pw_callv (va_runV (As := [.int (nI f)]) (rest := []) ⟨hx, hb, hml, hown, hg⟩ (c_MO_settle l dC dI cI cB cE cL cZ n am T f hf (pd_be_v hrT.1 (by omega) hv) H.size) (cwV 1 hg (gi_V (fun _ h => h) (wG_m12 (List.mem_of_getElem? (i := 39) rfl)) (wG_m13 (List.mem_of_getElem? (i := 0) rfl)) (wG_m14 (List.mem_of_getElem? (i := 18) rfl)) (wG_m1 (List.mem_of_getElem? (i := 6) rfl)) (wG_m13 (List.mem_of_getElem? (i := 1) rfl))) rfl rfl rfl (by decide +kernel) ⟨Nat.le_of_ble_eq_true rfl, Nat.le_of_ble_eq_true rfl⟩) (pw_pv hK hP hD (va_recv hK hP (ci := 4) (q0 := 0) rfl mw_g0) [.int (nI f)]) rfl rfl hl.1 rfl (lv_room (Nat.le_of_ble_eq_true rfl)) d_MO_breaks_64 ⟨Nat.le_of_ble_eq_true rfl, Nat.le_of_ble_eq_true rfl⟩) hD hS hA (fun S2 H locs hr hP hD hS => ?_)
    exact W.vret hx hb hret (fun t9 ht9 hW9 => ⟨⟨_, rfl, ⟨⟨T, Or.inl ⟨h1, hrT.1⟩, hr.1⟩, by rw [hr.2, hrT.2.1]⟩, by rw [ht9]; exact hP, va_K.moved hW9.alike hK, hD⟩, hS.F ht9⟩) hS.2.2 d_MO_breaks_67
set_option maxHeartbeats 4000000 in
set_option maxRecDepth 100000 in
/-- feed -/
theorem c_MO_feed (l : Launch) (dC : Nat → ClassId) (dI : Nat → Nat → Nat) (cI cB cE cL cZ : ClassId) (n : Nat) (am : Nat → Nat) (S : pdS) (x : Int64) (k : Int32) (h72 : S 7 2 ≤ 4096) (sz : Nat) : CMi l (dC, dI) (pw_ty cI cB cE cL cZ) y_MO_feed w_MO_feed ({ frames := 1, cells := 0, slots := 0, locals := 22 }) [.ref (am 0), .long x, .int k] (mw n am cI cL cZ S) (mw n am cI cL cZ) sz (fun r S2 => (S2 7 3 = 1 ∧ (∀ j, 1 ≤ j → j ≤ 8 → k ≠ nI j) ∧ pd_sa S S2) ∨ (S2 7 3 = 2 ∧ (∃ j, 1 ≤ j ∧ j ≤ 8 ∧ k = nI j ∧ 4096 < S 7 2 + j) ∧ pd_sa S S2) ∨ (S2 7 3 = 0 ∧ ∃ j, 1 ≤ j ∧ j ≤ 8 ∧ k = nI j ∧ S 7 2 + j ≤ 4096 ∧ r = nI (S 7 2 + j) ∧ pd_sa (pd_fd S x j) S2)) := by
  refine Met.ofW (cc := b_MO_feed) (maxL := 5) (ret := (some .int)) (by decide) rfl ?_
  intro p e s m args below meth c s₁ B hml hv
  obtain ⟨rfl, hsz, hP, hK, hD0⟩ := hv
  have hx := B.exec
  have hb := B.bytes
  have hret := B.returns
  have hts := atoms_spec (ws := w_MO_feed) B.pre
  have hg : ∀ w ∈ wsG, w.before _ s = true := fun w h => hts w (List.mem_cons_of_mem _ h)
  have hown : s.vm.findClass "PageDriveModel" = some m.cls := findClass_of_methodNamed B.named
  have hlocks := B.notSynchronized
  subst hsz
  have hD := hD0.self (sz := s.heap.size)
  generalize hAe : va_A (mw n am cI cL cZ S) s.heap.size = A at hD ⊢
  have hA : ∀ q : Nat, s.heap.size ≤ q → A q := fun q h => by rw [← hAe]; exact Or.inr h
  have hS : va_S A s.heap s.heap [] := va_S.rf
  have hl := lv_entry ([.ref (am 0), .long x, .int k]) (n := 5) (Nat.le_of_ble_eq_true rfl)
  rw [lg_entry_eq]
  generalize (lg_sl ([.ref (am 0), .long x, .int k]) ++ List.replicate (5 - (lg_sl ([.ref (am 0), .long x, .int k])).length) Slot.unset).toArray = ls at hl ⊢
  have hl : lv_has ls 5 [(0, .ref (am 0)), (1, .long x), (3, .int k)] := hl
  refine lv_aload_n hx hb d_MO_feed_0 rfl (lv_at hl 0 rfl) ?_
  refine lv_iconst (v := nI 0) hx hb d_MO_feed_1 (by decide) ?_
  refine pm_thr hx hb hg hown hK hP hD hS (hg (Cond.fieldLink "PageDriveModel" 37 "PageDriveModel" "thrown" "I") (wG_m10 (List.mem_of_getElem? (i := 23) rfl))) d_MO_feed_2 (fun H locs hP hD hS => ?_)
  generalize eS1 : pd_st S 7 3 0 = S1 at hP hD
  have hsa : ∀ v, pd_sa S (pd_st S1 7 3 v) := fun v => by rw [← eS1]; exact pd_sa_tr (pd_sa_st (Or.inr (Or.inr ⟨rfl, by decide, by decide⟩))) (pd_sa_st (Or.inr (Or.inr ⟨rfl, by decide, by decide⟩)))
  have h172 : S1 7 2 = S 7 2 := by rw [← eS1, pd_ne _ (by decide)]
  have h173 : S1 7 3 = 0 := by rw [← eS1, pd_self]
  refine lv_iload_n hx hb d_MO_feed_5 rfl (lv_at hl 2 rfl) ?_
  refine lv_iconst (v := nI 1) hx hb d_MO_feed_6 (by decide) ?_
  refine lv_bipush (v := nI 8) hx hb d_MO_feed_7 (by decide) ?_
  refine pw_callip (va_runS (As := [.int k, .int (nI 1), .int (nI 8)]) (rest := []) ⟨hx, hb, hml, hown, hg⟩ (c_MO_within l dC dI cI cB cE cL cZ (mw n am cI cL cZ S1) k (nI 1) (nI 8) H.size) (cwS 3 hg (gi_S (fun _ h => h) (wG_m11 (List.mem_of_getElem? (i := 27) rfl)) (wG_m11 (List.mem_of_getElem? (i := 28) rfl)) (wG_m1 (List.mem_of_getElem? (i := 6) rfl)) (wG_m11 (List.mem_of_getElem? (i := 29) rfl))) rfl rfl rfl (by decide +kernel) ⟨Nat.le_of_ble_eq_true rfl, Nat.le_of_ble_eq_true rfl⟩) (pw_ps hK hP hD [.int k, .int (nI 1), .int (nI 8)]) rfl rfl hl.1 rfl (lv_room (Nat.le_of_ble_eq_true rfl)) d_MO_feed_9 ⟨Nat.le_of_ble_eq_true rfl, Nat.le_of_ble_eq_true rfl⟩) hD hS hA (fun r1 H locs hr hP hD hS => ?_)
  rcases hr with ⟨h1, h2, rfl⟩ | ⟨h1, rfl⟩
  · obtain ⟨j, hj1, hj2, rfl⟩ := pd_rng (a := 1) (b := 8) (by decide) (by decide) h1 h2
    refine pq_if_ne (tgt := 21) hx hb (by omega) d_MO_feed_12 (by decide) (fun _ => ?_) (fun h9 => absurd h9 (by omega))
    refine lv_aload_n hx hb d_MO_feed_21 rfl (lv_at hl 0 rfl) ?_
    refine va_get (C := "PageDriveModel") (T := F_MO) (N := 11) hx hb hg iw_MO hown hK hP (0) mw_g0 rfl 2 (by decide) (hg (Cond.fieldLink "PageDriveModel" 48 "PageDriveModel" "fed" "I") (wG_m10 (List.mem_of_getElem? (i := 25) rfl))) (fun _ h9 => h9) rfl d_MO_feed_22 ?_
    refine lv_iload_n hx hb d_MO_feed_25 rfl (lv_at hl 2 rfl) ?_
    refine pq_iadd hx hb d_MO_feed_26 ?_
    refine lv_sipush (v := nI 4096) hx hb d_MO_feed_27 (by decide) ?_
    refine pq_icmp_le (tgt := 39) hx hb (by omega) (by omega) d_MO_feed_30 (by decide) (fun h3 => ?_) (fun h3 => ?_)
    · refine lv_iconst (v := nI 0) hx hb d_MO_feed_39 (by decide) ?_
      refine lv_istore (lv' := [(4, .int (nI 0)), (0, .ref (am 0)), (1, .long x), (3, .int (nI j))]) hx hb d_MO_feed_40 hl (by decide) rfl (fun ls hl => ?_)
      refine pw_loop (fun mm H locs ls => ∃ (T : pdS) (i : Nat), mm = j - i ∧ i ≤ j ∧ T = pd_tp S1 x (S 7 2) i ∧ va_P (dC, dI) pwCl (mw n am cI cL cZ T) H ∧ va_D A (mw n am cI cL cZ T) ∧ va_S A s.heap H locs ∧ lv_has ls 5 [(4, .int (nI i)), (0, .ref (am 0)), (1, .long x), (3, .int (nI j))]) ?_ _ _ _ _ ⟨S1, 0, rfl, by omega, rfl, hP, hD, hS, hl⟩
      rintro mm H locs ls ⟨T, i, hmm, hi, hT, hP, hD, hS, hl⟩ ih
      have hT7 : T 7 = S1 7 := by rw [hT, pd_tp_bk (by decide)]
      have hT72 : T 7 2 = S 7 2 := by rw [hT7, h172]
      refine lv_iload hx hb d_MO_feed_42 (lv_at hl 0 rfl) ?_
      refine lv_iload_n hx hb d_MO_feed_44 rfl (lv_at hl 3 rfl) ?_
      refine pq_icmp_ge (tgt := 78) hx hb (by omega) (by omega) d_MO_feed_45 (by decide) (fun h4 => ?_) (fun h4 => ?_)
      · have hij : i = j := by omega
        subst hij
        refine lv_aload_n hx hb d_MO_feed_78 rfl (lv_at hl 1 rfl) ?_
        refine lv_dup hx hb d_MO_feed_79 rfl ?_
        refine va_get (C := "PageDriveModel") (T := F_MO) (N := 11) hx hb hg iw_MO hown hK hP (0) mw_g0 rfl 2 (by decide) (hg (Cond.fieldLink "PageDriveModel" 48 "PageDriveModel" "fed" "I") (wG_m10 (List.mem_of_getElem? (i := 25) rfl))) (fun _ h9 => h9) rfl d_MO_feed_80 ?_
        refine lv_iload_n hx hb d_MO_feed_83 rfl (lv_at hl 3 rfl) ?_
        refine pq_iadd hx hb d_MO_feed_84 ?_
        refine pm_fed hx hb hg hown hK hP hD hS (hg (Cond.fieldLink "PageDriveModel" 48 "PageDriveModel" "fed" "I") (wG_m10 (List.mem_of_getElem? (i := 25) rfl))) d_MO_feed_85 (fun H locs hP hD hS => ?_)
        generalize eS2 : pd_st T 7 2 ((T 7 2) + i) = S2 at hP hD
        have h1v : S2 7 2 = S 7 2 + i := by rw [← eS2, pd_self, hT72]
        refine lv_aload_n hx hb d_MO_feed_88 rfl (lv_at hl 1 rfl) ?_
        refine va_get (C := "PageDriveModel") (T := F_MO) (N := 11) hx hb hg iw_MO hown hK hP (0) mw_g0 rfl 2 (by decide) (hg (Cond.fieldLink "PageDriveModel" 48 "PageDriveModel" "fed" "I") (wG_m10 (List.mem_of_getElem? (i := 25) rfl))) (fun _ h9 => h9) rfl d_MO_feed_89 ?_
        refine pq_top (y := nI (S 7 2 + i)) (by rw [h1v]) ?_
        have hfd : pd_sa (pd_fd S x i) S2 := by
          have e9 : S2 = pd_fd S1 x i := by rw [← eS2, hT72, hT]; unfold pd_fd; rw [h172]
          rw [e9]
          have hb : ∀ b, b ≠ 7 → S1 b = S b := fun b hb => by rw [← eS1, pd_bk _ hb]
          have hfb : ∀ b, b ≠ 3 → b ≠ 7 → pd_fd S1 x i b = pd_fd S x i b := fun b h3 h7 => by
            unfold pd_fd
            rw [pd_bk _ h7, pd_bk _ h7, pd_tp_bk h3, pd_tp_bk h3, hb b h7]
          refine ⟨hfb 0 (by decide) (by decide), ?_, hfb 4 (by decide) (by decide), hfb 5 (by decide) (by decide), hfb 6 (by decide) (by decide), ?_, ?_, fun d _ => hfb (8 + d) (by omega) (by omega)⟩
          · funext q
            unfold pd_fd
            rw [pd_bk _ (by decide), pd_bk _ (by decide), pd_tp_at, pd_tp_at, h172, hb 3 (by decide)]
          · unfold pd_fd
            rw [pd_ne _ (by decide), pd_ne _ (by decide), pd_tp_bk (by decide), pd_tp_bk (by decide), ← eS1, pd_ne _ (by decide)]
          · unfold pd_fd
            rw [pd_self, pd_self, h172]
        exact W.iret (v := (nI (S 7 2 + i))) hx hb hret (fun t9 ht9 hW9 => ⟨⟨_, _, rfl, Or.inr (Or.inr ⟨by rw [← eS2, pd_ne _ (by decide), hT7, h173], i, hj1, hj2, rfl, by omega, rfl, hfd⟩), by rw [ht9]; exact hP, va_K.moved hW9.alike hK, hD⟩, hS.F ht9⟩) hS.2.2 d_MO_feed_92
      · refine lv_aload_n hx hb d_MO_feed_48 rfl (lv_at hl 1 rfl) ?_
        refine va_get (C := "PageDriveModel") (T := F_MO) (N := 11) hx hb hg iw_MO hown hK hP (0) mw_g0 rfl 3 (by decide) (hg (Cond.fieldLink "PageDriveModel" 7 "PageDriveModel" "tape" "[I") (wG_m10 (List.mem_of_getElem? (i := 26) rfl))) (fun _ h9 => h9) rfl d_MO_feed_49 ?_
        refine lv_aload_n hx hb d_MO_feed_52 rfl (lv_at hl 1 rfl) ?_
        refine va_get (C := "PageDriveModel") (T := F_MO) (N := 11) hx hb hg iw_MO hown hK hP (0) mw_g0 rfl 2 (by decide) (hg (Cond.fieldLink "PageDriveModel" 48 "PageDriveModel" "fed" "I") (wG_m10 (List.mem_of_getElem? (i := 25) rfl))) (fun _ h9 => h9) rfl d_MO_feed_53 ?_
        refine lv_iload hx hb d_MO_feed_56 (lv_at hl 0 rfl) ?_
        refine pq_iadd hx hb d_MO_feed_58 ?_
        refine lv_lload_n hx hb d_MO_feed_59 rfl (lv_at hl 2 rfl) ?_
        refine lv_bipush (v := nI 8) hx hb d_MO_feed_60 (by decide) ?_
        refine lv_iload hx hb d_MO_feed_62 (lv_at hl 0 rfl) ?_
        refine pq_imul hx hb d_MO_feed_64 ?_
        refine lv_lshr hx hb d_MO_feed_65 rfl ?_
        refine lv_ldc2 hx hb hown (hg (Cond.constantLong "PageDriveModel" 51 (255)) (wG_m11 (List.mem_of_getElem? (i := 33) rfl))) d_MO_feed_66 ?_
        refine lv_land hx hb d_MO_feed_69 ?_
        refine lv_l2i hx hb d_MO_feed_70 rfl ?_
        refine pq_top (y := nI (pd_bv x i)) (pd_rd x (by omega)) ?_
        refine pm_tape hx hb hK hP hD hS (by omega) rfl d_MO_feed_71 (fun H locs hP hD hS => ?_)
        generalize eS3 : pd_st T 3 ((T 7 2) + i) (pd_bv x i) = S3 at hP hD
        refine lv_iinc (v := (nI (i + 1))) (lv' := [(4, .int (nI (i + 1))), (0, .ref (am 0)), (1, .long x), (3, .int (nI j))]) hx hb d_MO_feed_72 hl (k := 0) rfl (pq_inc _) (by decide) rfl (fun ls hl => ?_)
        refine lv_goto (tgt := 42) hx hb d_MO_feed_75 (by decide) ?_
        exact ih _ _ _ _ (by omega) ⟨_, i + 1, rfl, by omega, by rw [← eS3, hT72, hT]; rfl, hP, hD, hS, hl⟩
    · refine lv_aload_n hx hb d_MO_feed_33 rfl (lv_at hl 0 rfl) ?_
      refine lv_iconst (v := nI 2) hx hb d_MO_feed_34 (by decide) ?_
      refine pw_calli (va_runV (As := [.int (nI 2)]) (rest := []) ⟨hx, hb, hml, hown, hg⟩ (c_MO_fail l dC dI cI cB cE cL cZ n am S1 2 H.size) (cwV 1 hg (gi_V (fun _ h => h) (wG_m11 (List.mem_of_getElem? (i := 30) rfl)) (wG_m11 (List.mem_of_getElem? (i := 31) rfl)) (wG_m14 (List.mem_of_getElem? (i := 11) rfl)) (wG_m1 (List.mem_of_getElem? (i := 6) rfl)) (wG_m11 (List.mem_of_getElem? (i := 32) rfl))) rfl rfl rfl (by decide +kernel) ⟨Nat.le_of_ble_eq_true rfl, Nat.le_of_ble_eq_true rfl⟩) (pw_pv hK hP hD (va_recv hK hP (ci := 4) (q0 := 0) rfl mw_g0) [.int (nI 2)]) rfl rfl hl.1 rfl (lv_room (Nat.le_of_ble_eq_true rfl)) d_MO_feed_35 ⟨Nat.le_of_ble_eq_true rfl, Nat.le_of_ble_eq_true rfl⟩) hD hS hA (fun r2 S2 H locs hr hP hD hS => ?_)
      obtain ⟨rfl, eS2⟩ := hr
      exact W.iret (v := (nI 0)) hx hb hret (fun t9 ht9 hW9 => ⟨⟨_, S2, rfl, Or.inr (Or.inl ⟨by rw [eS2, pd_self], ⟨j, hj1, hj2, rfl, by omega⟩, by rw [eS2]; exact hsa 2⟩), by rw [ht9]; exact hP, va_K.moved hW9.alike hK, hD⟩, hS.F ht9⟩) hS.2.2 d_MO_feed_38
  · refine pq_if_ne (tgt := 21) hx hb (by omega) d_MO_feed_12 (by decide) (fun h9 => absurd h9 (by omega)) (fun _ => ?_)
    refine lv_aload_n hx hb d_MO_feed_15 rfl (lv_at hl 0 rfl) ?_
    refine lv_iconst (v := nI 1) hx hb d_MO_feed_16 (by decide) ?_
    refine pw_calli (va_runV (As := [.int (nI 1)]) (rest := []) ⟨hx, hb, hml, hown, hg⟩ (c_MO_fail l dC dI cI cB cE cL cZ n am S1 1 H.size) (cwV 1 hg (gi_V (fun _ h => h) (wG_m11 (List.mem_of_getElem? (i := 30) rfl)) (wG_m11 (List.mem_of_getElem? (i := 31) rfl)) (wG_m14 (List.mem_of_getElem? (i := 11) rfl)) (wG_m1 (List.mem_of_getElem? (i := 6) rfl)) (wG_m11 (List.mem_of_getElem? (i := 32) rfl))) rfl rfl rfl (by decide +kernel) ⟨Nat.le_of_ble_eq_true rfl, Nat.le_of_ble_eq_true rfl⟩) (pw_pv hK hP hD (va_recv hK hP (ci := 4) (q0 := 0) rfl mw_g0) [.int (nI 1)]) rfl rfl hl.1 rfl (lv_room (Nat.le_of_ble_eq_true rfl)) d_MO_feed_17 ⟨Nat.le_of_ble_eq_true rfl, Nat.le_of_ble_eq_true rfl⟩) hD hS hA (fun r2 S2 H locs hr hP hD hS => ?_)
    obtain ⟨rfl, eS2⟩ := hr
    exact W.iret (v := (nI 0)) hx hb hret (fun t9 ht9 hW9 => ⟨⟨_, S2, rfl, Or.inl ⟨by rw [eS2, pd_self], fun j h1j h2j => h1.elim (fun q => pd_below q j h1j (by omega)) (fun q => pd_above (b := 8) (by decide) q j h2j), by rw [eS2]; exact hsa 1⟩, by rw [ht9]; exact hP, va_K.moved hW9.alike hK, hD⟩, hS.F ht9⟩) hS.2.2 d_MO_feed_20
end
section
/-! PURE, 14: steps from a state that is as good -/
theorem pd_sa_sy {S T : pdS} (h : pd_sa S T) : pd_sa T S := by
  obtain ⟨a0, a3, a4, a5, a6, a7, a8, ar⟩ := h
  exact ⟨a0.symm, a3.symm, a4.symm, a5.symm, a6.symm, a7.symm, a8.symm, fun d hd => (ar d hd).symm⟩
theorem pd_sh_sa {S U T : pdS} {c x : Nat} (h : pd_sa S U) (g : pd_sh U T c x) : pd_sh S T c x := by
  obtain ⟨a0, a3, a4, a5, a6, a7, a8, ar⟩ := h
  obtain ⟨b0, b3, b4, b5, b6, b7, b8, br⟩ := g
  exact ⟨b0.trans a0, b3.trans a3, by rw [b4, a4], b5.trans a5, b6.trans a6, b7.trans a7, b8.trans a8, fun d hd => (br d hd).trans (ar d hd)⟩
theorem pd_be_sa {S U T : pdS} {to fr : Nat} (hf : fr < 32) (h : pd_sa S U) (g : pd_be U T to fr) : pd_be S T to fr := by
  obtain ⟨a0, a3, a4, a5, a6, a7, a8, ar⟩ := h
  obtain ⟨b0, b3, b4, b5, b6, b7, b8, br, bo⟩ := g
  rw [a4] at b4 br bo
  rw [a5] at b5
  exact ⟨b0.trans a0, b3.trans a3, b4, b5, b6.trans a6, b7.trans a7, b8.trans a8, fun k hk => by rw [br k hk, ar fr hf], fun d k hd hdt hk => by rw [bo d k hd hdt hk, ar d hd]⟩
theorem pd_cut_sa {S U T : pdS} {f x : Nat} (h : pd_sa S U) (g : pd_cut U T f x) : pd_cut S T f x := by
  obtain ⟨X, g1, g2⟩ := g
  exact ⟨X, pd_sh_sa h g1, by rw [← show U 6 = S 6 from h.2.2.2.2.1]; exact g2⟩
theorem pd_set_sa {S U T : pdS} {f : Nat} (hf : f < 16) (h : pd_sa S U) (g : pd_set U T f) : pd_set S T f := by
  obtain ⟨X, g1, g2⟩ := g
  exact ⟨X, pd_be_sa (by omega) h g1, by rw [← show U 4 = S 4 from h.2.2.1]; exact g2⟩
theorem pd_fal_sa {S U T : pdS} {f k : Nat} (hf : f < 16) (h : pd_sa S U) (g : pd_fal U T f k) : pd_fal S T f k := by
  obtain ⟨X, g1, g2⟩ := g
  rw [show U 4 = S 4 from h.2.2.1, show U 6 = S 6 from h.2.2.2.2.1] at g1
  refine ⟨X, ?_, g2⟩
  rcases g1 with ⟨a, b⟩ | ⟨a, b, c⟩ | ⟨a, b, c⟩
  · exact Or.inl ⟨a, pd_be_sa (by omega) h b⟩
  · exact Or.inr (Or.inl ⟨a, b, pd_sh_sa h c⟩)
  · exact Or.inr (Or.inr ⟨a, b, pd_sa_tr h c⟩)
theorem pd_al_sa {S U : pdS} {x : Int64} (h : pd_sa S U) : ∀ {m : Nat} {T : pdS} {y : Int64}, pd_al U x m T y → pd_al S x m T y
  | 0, T, y, g => ⟨pd_sa_tr h g.1, g.2⟩
  | m + 1, T, y, g => by
    obtain ⟨X, z, g1, g2, g3⟩ := g
    exact ⟨X, z, pd_al_sa h g1, g2, g3⟩
theorem pd_th_sa {S U : pdS} (h : pd_sa S U) : pd_th U = pd_th S := by
  unfold pd_th
  rw [show U 5 = S 5 from h.2.2.2.1]
theorem pd_un_sa {S U : pdS} {f : Nat} (hf : f < 16) (h : pd_sa S U) : pd_un U f = pd_un S f := by
  unfold pd_un
  rw [show U 4 = S 4 from h.2.2.1, h.2.2.2.2.2.2.2 (2 * f) (by omega), h.2.2.2.2.2.2.2 (2 * f + 1) (by omega)]
theorem pd_shd_sa {S U : pdS} {c : Nat} (hc : c < 32) (h : pd_sa S U) : pd_shd U c = pd_shd S c := by
  unfold pd_shd
  rw [show U 4 = S 4 from h.2.2.1, h.2.2.2.2.2.2.2 c hc]
  exact pd_sm_congr (fun k _ => by rw [pd_sa_ct h])
theorem pd_sa_cg {A B : pdS} {b j v : Nat} (h : pd_sa A B) (hb : b = 4 ∨ b = 5 ∨ b = 6) : pd_sa (pd_st A b j v) (pd_st B b j v) := by
  obtain ⟨a0, a3, a4, a5, a6, a7, a8, ar⟩ := h
  have hbk : ∀ q, A q = B q → pd_st B b j v q = pd_st A b j v q := fun q hq => by
    by_cases h1 : q = b
    · subst h1
      rw [pd_own, pd_own, hq]
    · rw [pd_bk _ h1, pd_bk _ h1, hq]
  refine ⟨hbk 0 a0.symm, hbk 3 a3.symm, hbk 4 a4.symm, hbk 5 a5.symm, hbk 6 a6.symm, ?_, ?_, fun d hd => hbk (8 + d) (ar d hd).symm⟩
  · rw [pd_bk _ (by omega), pd_bk _ (by omega), a7]
  · rw [pd_bk _ (by omega), pd_bk _ (by omega), a8]
theorem pd_sa_73 (S : pdS) (v : Nat) : pd_sa S (pd_st S 7 3 v) := pd_sa_st (Or.inr (Or.inr ⟨rfl, by decide, by decide⟩))
theorem pd_lrem {a b : Nat} (ha : a < 2 ^ 63) (h0 : 0 < b) (hb : b < 2 ^ 63) : lN a - lN a / lN b * lN b = lN (a % b) := pk_lRem ha h0 hb
theorem pd_st_cm (S : pdS) {b b' j v j' v' : Nat} (h : b ≠ b') : pd_st (pd_st S b j v) b' j' v' = pd_st (pd_st S b' j' v') b j v := by
  funext q r
  simp only [pd_at]
  by_cases h1 : q = b ∧ r = j
  · have h2 : ¬ (q = b' ∧ r = j') := fun z => h (h1.1.symm.trans z.1)
    rw [if_neg h2, if_pos h1, if_pos h1]
  · rw [if_neg h1, if_neg h1]
end
section
/-! THE MODEL, 3: cut, remove, twin, sync, crash, crashAll, file, byteAt, count -/
set_option maxHeartbeats 4000000 in
set_option maxRecDepth 100000 in
/-- cut -/
theorem c_MO_cut (l : Launch) (dC : Nat → ClassId) (dI : Nat → Nat → Nat) (cI cB cE cL cZ : ClassId) (n : Nat) (am : Nat → Nat) (S : pdS) (f z : Int32) (hv : pd_v 1024 S) (hlw : pd_lo S) (sz : Nat) : CMi l (dC, dI) (pw_ty cI cB cE cL cZ) y_MO_cut w_MO_cut ({ frames := 2, cells := 0, slots := 0, locals := 42 }) [.ref (am 0), .int f, .int z] (mw n am cI cL cZ S) (mw n am cI cL cZ) sz (fun r S2 => (S2 7 3 = 1 ∧ pd_nof f ∧ pd_sa S S2) ∨ (S2 7 3 = 2 ∧ (∃ i, i < 16 ∧ f = nI i ∧ S 5 (2 * i) = 0) ∧ pd_sa S S2) ∨ (S2 7 3 = 3 ∧ (∃ i, i < 16 ∧ f = nI i ∧ S 5 (2 * i) ≠ 0 ∧ ∀ x, x ≤ S 4 (2 * i) → z ≠ nI x) ∧ pd_sa S S2) ∨ (S2 7 3 = 0 ∧ ∃ i x, i < 16 ∧ f = nI i ∧ S 5 (2 * i) ≠ 0 ∧ x ≤ S 4 (2 * i) ∧ z = nI x ∧ r = nI (S 4 (2 * i)) ∧ pd_cut S S2 i x)) := by
  refine Met.ofW (cc := b_MO_cut) (maxL := 4) (ret := (some .int)) (by decide) rfl ?_
  intro p e s m args below meth c s₁ B hml hv
  obtain ⟨rfl, hsz, hP, hK, hD0⟩ := hv
  have hx := B.exec
  have hb := B.bytes
  have hret := B.returns
  have hts := atoms_spec (ws := w_MO_cut) B.pre
  have hg : ∀ w ∈ wsG, w.before _ s = true := fun w h => hts w (List.mem_cons_of_mem _ h)
  have hown : s.vm.findClass "PageDriveModel" = some m.cls := findClass_of_methodNamed B.named
  have hlocks := B.notSynchronized
  subst hsz
  have hD := hD0.self (sz := s.heap.size)
  generalize hAe : va_A (mw n am cI cL cZ S) s.heap.size = A at hD ⊢
  have hA : ∀ q : Nat, s.heap.size ≤ q → A q := fun q h => by rw [← hAe]; exact Or.inr h
  have hS : va_S A s.heap s.heap [] := va_S.rf
  have hl := lv_entry ([.ref (am 0), .int f, .int z]) (n := 4) (Nat.le_of_ble_eq_true rfl)
  rw [lg_entry_eq]
  generalize (lg_sl ([.ref (am 0), .int f, .int z]) ++ List.replicate (4 - (lg_sl ([.ref (am 0), .int f, .int z])).length) Slot.unset).toArray = ls at hl ⊢
  have hl : lv_has ls 4 [(0, .ref (am 0)), (1, .int f), (2, .int z)] := hl
  refine lv_aload_n hx hb d_MO_cut_0 rfl (lv_at hl 0 rfl) ?_
  refine lv_iconst (v := nI 0) hx hb d_MO_cut_1 (by decide) ?_
  refine pm_thr hx hb hg hown hK hP hD hS (hg (Cond.fieldLink "PageDriveModel" 37 "PageDriveModel" "thrown" "I") (wG_m10 (List.mem_of_getElem? (i := 23) rfl))) d_MO_cut_2 (fun H locs hP hD hS => ?_)
  generalize eS1 : pd_st S 7 3 0 = S1 at hP hD
  have hsa1 : pd_sa S S1 := by rw [← eS1]; exact pd_sa_73 S 0
  have hsa : ∀ v, pd_sa S (pd_st S1 7 3 v) := fun v => pd_sa_tr hsa1 (pd_sa_73 S1 v)
  have h173 : S1 7 3 = 0 := by rw [← eS1, pd_self]
  have hb1 : ∀ b, b ≠ 7 → S1 b = S b := fun b hb => by rw [← eS1, pd_bk _ hb]
  have hv1 := pd_sa_v hsa1 hv
  refine lv_iload_n hx hb d_MO_cut_5 rfl (lv_at hl 1 rfl) ?_
  refine pw_callip (va_runS (As := [.int f]) (rest := []) ⟨hx, hb, hml, hown, hg⟩ (c_MO_noFile l dC dI cI cB cE cL cZ (mw n am cI cL cZ S1) f H.size) (cwS 1 hg (gi_S (fun _ h => h) (wG_m11 (List.mem_of_getElem? (i := 38) rfl)) (wG_m11 (List.mem_of_getElem? (i := 39) rfl)) (wG_m1 (List.mem_of_getElem? (i := 6) rfl)) (wG_m12 (List.mem_of_getElem? (i := 0) rfl))) rfl rfl rfl (by decide +kernel) ⟨Nat.le_of_ble_eq_true rfl, Nat.le_of_ble_eq_true rfl⟩) (pw_ps hK hP hD [.int f]) rfl rfl hl.1 rfl (lv_room (Nat.le_of_ble_eq_true rfl)) d_MO_cut_6 ⟨Nat.le_of_ble_eq_true rfl, Nat.le_of_ble_eq_true rfl⟩) hD hS hA (fun r2 H locs hr hP hD hS => ?_)
  rcases hr with ⟨i, hi, rfl, rfl⟩ | ⟨hno, rfl⟩
  · refine pq_if_eq (tgt := 18) hx hb (by omega) d_MO_cut_9 (by decide) (fun _ => ?_) (fun h9 => absurd h9 (by omega))
    have hs4 := (hv.1 (2 * i) (by omega)).1
    have hs5 := (hv1.1 (2 * i) (by omega)).2.1
    have hl6 := hlw i hi
    have e5 : S1 5 (2 * i) = S 5 (2 * i) := by rw [hb1 5 (by decide)]
    have e4 : S1 4 (2 * i) = S 4 (2 * i) := by rw [hb1 4 (by decide)]
    have e6 : S1 6 i = S 6 i := by rw [hb1 6 (by decide)]
    refine lv_aload_n hx hb d_MO_cut_18 rfl (lv_at hl 0 rfl) ?_
    refine va_get (C := "PageDriveModel") (T := F_MO) (N := 11) hx hb hg iw_MO hown hK hP (0) mw_g0 rfl 7 (by decide) (hg (Cond.fieldLink "PageDriveModel" 23 "PageDriveModel" "there" "[Z") (wG_m10 (List.mem_of_getElem? (i := 30) rfl))) (fun _ h9 => h9) rfl d_MO_cut_19 ?_
    refine lv_iconst (v := nI 2) hx hb d_MO_cut_22 (by decide) ?_
    refine lv_iload_n hx hb d_MO_cut_23 rfl (lv_at hl 1 rfl) ?_
    refine pq_imul hx hb d_MO_cut_24 ?_
    refine pq_zald hx hb hK hP 5 4 mw_g5 rfl (by omega) (by omega) d_MO_cut_25 ?_
    refine pq_if_ne (tgt := 35) hx hb (by omega) d_MO_cut_26 (by decide) (fun h1 => ?_) (fun h1 => ?_)
    · refine lv_aload_n hx hb d_MO_cut_35 rfl (lv_at hl 0 rfl) ?_
      refine va_get (C := "PageDriveModel") (T := F_MO) (N := 11) hx hb hg iw_MO hown hK hP (0) mw_g0 rfl 6 (by decide) (hg (Cond.fieldLink "PageDriveModel" 20 "PageDriveModel" "sizes" "[I") (wG_m10 (List.mem_of_getElem? (i := 29) rfl))) (fun _ h9 => h9) rfl d_MO_cut_36 ?_
      refine lv_iconst (v := nI 2) hx hb d_MO_cut_39 (by decide) ?_
      refine lv_iload_n hx hb d_MO_cut_40 rfl (lv_at hl 1 rfl) ?_
      refine pq_imul hx hb d_MO_cut_41 ?_
      refine pq_iald hx hb hK hP 4 0 mw_g4 rfl (by omega) (by omega) d_MO_cut_42 ?_
      refine lv_istore_n (lv' := [(3, .int (nI (S1 4 (2 * i)))), (0, .ref (am 0)), (1, .int (nI i)), (2, .int z)]) hx hb d_MO_cut_43 rfl hl (by decide) rfl (fun ls hl => ?_)
      refine lv_iload_n hx hb d_MO_cut_44 rfl (lv_at hl 3 rfl) ?_
      refine lv_iconst (v := nI 0) hx hb d_MO_cut_45 (by decide) ?_
      refine lv_iload_n hx hb d_MO_cut_46 rfl (lv_at hl 0 rfl) ?_
      refine pw_callip (va_runS (As := [.int z, .int (nI 0), .int (nI (S1 4 (2 * i)))]) (rest := []) ⟨hx, hb, hml, hown, hg⟩ (c_MO_within l dC dI cI cB cE cL cZ (mw n am cI cL cZ S1) z (nI 0) (nI (S1 4 (2 * i))) H.size) (cwS 3 hg (gi_S (fun _ h => h) (wG_m11 (List.mem_of_getElem? (i := 27) rfl)) (wG_m11 (List.mem_of_getElem? (i := 28) rfl)) (wG_m1 (List.mem_of_getElem? (i := 6) rfl)) (wG_m11 (List.mem_of_getElem? (i := 29) rfl))) rfl rfl rfl (by decide +kernel) ⟨Nat.le_of_ble_eq_true rfl, Nat.le_of_ble_eq_true rfl⟩) (pw_ps hK hP hD [.int z, .int (nI 0), .int (nI (S1 4 (2 * i)))]) rfl rfl hl.1 rfl (lv_room (Nat.le_of_ble_eq_true rfl)) d_MO_cut_47 ⟨Nat.le_of_ble_eq_true rfl, Nat.le_of_ble_eq_true rfl⟩) hD hS hA (fun r3 H locs hr hP hD hS => ?_)
      rcases hr with ⟨hw1, hw2, rfl⟩ | ⟨hw1, rfl⟩
      · refine pq_if_ne (tgt := 59) hx hb (by omega) d_MO_cut_50 (by decide) (fun _ => ?_) (fun h9 => absurd h9 (by omega))
        obtain ⟨x, hx1, hx2, rfl⟩ := pd_rng (a := 0) (b := S1 4 (2 * i)) (by decide) (by omega) hw1 hw2
        refine lv_aload_n hx hb d_MO_cut_59 rfl (lv_at hl 1 rfl) ?_
        refine lv_iload_n hx hb d_MO_cut_60 rfl (lv_at hl 2 rfl) ?_
        refine lv_iload_n hx hb d_MO_cut_61 rfl (lv_at hl 3 rfl) ?_
        refine pw_callv (va_runV (As := [.int (nI i), .int (nI x)]) (rest := []) ⟨hx, hb, hml, hown, hg⟩ (c_MO_shorten l dC dI cI cB cE cL cZ n am S1 i x hi (by omega) (by omega) H.size) (cwV 2 hg (gi_V (fun _ h => h) (wG_m12 (List.mem_of_getElem? (i := 18) rfl)) (wG_m12 (List.mem_of_getElem? (i := 19) rfl)) (wG_m14 (List.mem_of_getElem? (i := 15) rfl)) (wG_m1 (List.mem_of_getElem? (i := 6) rfl)) (wG_m12 (List.mem_of_getElem? (i := 20) rfl))) rfl rfl rfl (by decide +kernel) ⟨Nat.le_of_ble_eq_true rfl, Nat.le_of_ble_eq_true rfl⟩) (pw_pv hK hP hD (va_recv hK hP (ci := 4) (q0 := 0) rfl mw_g0) [.int (nI i), .int (nI x)]) rfl rfl hl.1 rfl (lv_room (Nat.le_of_ble_eq_true rfl)) d_MO_cut_62 ⟨Nat.le_of_ble_eq_true rfl, Nat.le_of_ble_eq_true rfl⟩) hD hS hA (fun S2 H locs hr hP hD hS => ?_)
        refine lv_iload_n hx hb d_MO_cut_65 rfl (lv_at hl 0 rfl) ?_
        refine pq_top (y := nI (S 4 (2 * i))) (by rw [e4]) ?_
        exact W.iret (v := (nI (S 4 (2 * i)))) hx hb hret (fun t9 ht9 hW9 => ⟨⟨_, S2, rfl, Or.inr (Or.inr (Or.inr ⟨by rw [hr, pd_bk _ (by decide), pd_bk _ (by decide), h173], i, x, hi, rfl, by omega, by omega, rfl, rfl, pd_cut_sa hsa1 ⟨_, pd_sh_m, by rw [hr]; exact pd_sa_rf _⟩⟩)), by rw [ht9]; exact hP, va_K.moved hW9.alike hK, hD⟩, hS.F ht9⟩) hS.2.2 d_MO_cut_66
      · refine pq_if_ne (tgt := 59) hx hb (by omega) d_MO_cut_50 (by decide) (fun h9 => absurd h9 (by omega)) (fun _ => ?_)
        refine lv_aload_n hx hb d_MO_cut_53 rfl (lv_at hl 1 rfl) ?_
        refine lv_iconst (v := nI 3) hx hb d_MO_cut_54 (by decide) ?_
        refine pw_calli (va_runV (As := [.int (nI 3)]) (rest := []) ⟨hx, hb, hml, hown, hg⟩ (c_MO_fail l dC dI cI cB cE cL cZ n am S1 3 H.size) (cwV 1 hg (gi_V (fun _ h => h) (wG_m11 (List.mem_of_getElem? (i := 30) rfl)) (wG_m11 (List.mem_of_getElem? (i := 31) rfl)) (wG_m14 (List.mem_of_getElem? (i := 11) rfl)) (wG_m1 (List.mem_of_getElem? (i := 6) rfl)) (wG_m11 (List.mem_of_getElem? (i := 32) rfl))) rfl rfl rfl (by decide +kernel) ⟨Nat.le_of_ble_eq_true rfl, Nat.le_of_ble_eq_true rfl⟩) (pw_pv hK hP hD (va_recv hK hP (ci := 4) (q0 := 0) rfl mw_g0) [.int (nI 3)]) rfl rfl hl.1 rfl (lv_room (Nat.le_of_ble_eq_true rfl)) d_MO_cut_55 ⟨Nat.le_of_ble_eq_true rfl, Nat.le_of_ble_eq_true rfl⟩) hD hS hA (fun rf S2 H locs hr hP hD hS => ?_)
        obtain ⟨rfl, eS2⟩ := hr
        exact W.iret (v := (nI 0)) hx hb hret (fun t9 ht9 hW9 => ⟨⟨_, S2, rfl, Or.inr (Or.inr (Or.inl ⟨by rw [eS2, pd_self], ⟨i, hi, rfl, by omega, fun x hx => hw1.elim (fun q => pd_below q x (by omega) (by omega)) (fun q => pd_above (b := S1 4 (2 * i)) (by omega) q x (by omega))⟩, by rw [eS2]; exact hsa 3⟩)), by rw [ht9]; exact hP, va_K.moved hW9.alike hK, hD⟩, hS.F ht9⟩) hS.2.2 d_MO_cut_58
    · refine lv_aload_n hx hb d_MO_cut_29 rfl (lv_at hl 0 rfl) ?_
      refine lv_iconst (v := nI 2) hx hb d_MO_cut_30 (by decide) ?_
      refine pw_calli (va_runV (As := [.int (nI 2)]) (rest := []) ⟨hx, hb, hml, hown, hg⟩ (c_MO_fail l dC dI cI cB cE cL cZ n am S1 2 H.size) (cwV 1 hg (gi_V (fun _ h => h) (wG_m11 (List.mem_of_getElem? (i := 30) rfl)) (wG_m11 (List.mem_of_getElem? (i := 31) rfl)) (wG_m14 (List.mem_of_getElem? (i := 11) rfl)) (wG_m1 (List.mem_of_getElem? (i := 6) rfl)) (wG_m11 (List.mem_of_getElem? (i := 32) rfl))) rfl rfl rfl (by decide +kernel) ⟨Nat.le_of_ble_eq_true rfl, Nat.le_of_ble_eq_true rfl⟩) (pw_pv hK hP hD (va_recv hK hP (ci := 4) (q0 := 0) rfl mw_g0) [.int (nI 2)]) rfl rfl hl.1 rfl (lv_room (Nat.le_of_ble_eq_true rfl)) d_MO_cut_31 ⟨Nat.le_of_ble_eq_true rfl, Nat.le_of_ble_eq_true rfl⟩) hD hS hA (fun rf S2 H locs hr hP hD hS => ?_)
      obtain ⟨rfl, eS2⟩ := hr
      exact W.iret (v := (nI 0)) hx hb hret (fun t9 ht9 hW9 => ⟨⟨_, S2, rfl, Or.inr (Or.inl ⟨by rw [eS2, pd_self], ⟨i, hi, rfl, by omega⟩, by rw [eS2]; exact hsa 2⟩), by rw [ht9]; exact hP, va_K.moved hW9.alike hK, hD⟩, hS.F ht9⟩) hS.2.2 d_MO_cut_34
  · refine pq_if_eq (tgt := 18) hx hb (by omega) d_MO_cut_9 (by decide) (fun h9 => absurd h9 (by omega)) (fun _ => ?_)
    refine lv_aload_n hx hb d_MO_cut_12 rfl (lv_at hl 0 rfl) ?_
    refine lv_iconst (v := nI 1) hx hb d_MO_cut_13 (by decide) ?_
    refine pw_calli (va_runV (As := [.int (nI 1)]) (rest := []) ⟨hx, hb, hml, hown, hg⟩ (c_MO_fail l dC dI cI cB cE cL cZ n am S1 1 H.size) (cwV 1 hg (gi_V (fun _ h => h) (wG_m11 (List.mem_of_getElem? (i := 30) rfl)) (wG_m11 (List.mem_of_getElem? (i := 31) rfl)) (wG_m14 (List.mem_of_getElem? (i := 11) rfl)) (wG_m1 (List.mem_of_getElem? (i := 6) rfl)) (wG_m11 (List.mem_of_getElem? (i := 32) rfl))) rfl rfl rfl (by decide +kernel) ⟨Nat.le_of_ble_eq_true rfl, Nat.le_of_ble_eq_true rfl⟩) (pw_pv hK hP hD (va_recv hK hP (ci := 4) (q0 := 0) rfl mw_g0) [.int (nI 1)]) rfl rfl hl.1 rfl (lv_room (Nat.le_of_ble_eq_true rfl)) d_MO_cut_14 ⟨Nat.le_of_ble_eq_true rfl, Nat.le_of_ble_eq_true rfl⟩) hD hS hA (fun rf S2 H locs hr hP hD hS => ?_)
    obtain ⟨rfl, eS2⟩ := hr
    exact W.iret (v := (nI 0)) hx hb hret (fun t9 ht9 hW9 => ⟨⟨_, S2, rfl, Or.inl ⟨by rw [eS2, pd_self], hno, by rw [eS2]; exact hsa 1⟩, by rw [ht9]; exact hP, va_K.moved hW9.alike hK, hD⟩, hS.F ht9⟩) hS.2.2 d_MO_cut_17
set_option maxHeartbeats 4000000 in
set_option maxRecDepth 100000 in
/-- remove -/
theorem c_MO_remove (l : Launch) (dC : Nat → ClassId) (dI : Nat → Nat → Nat) (cI cB cE cL cZ : ClassId) (n : Nat) (am : Nat → Nat) (S : pdS) (f : Int32) (hv : pd_v 1024 S) (hlw : pd_lo S) (sz : Nat) : CMi l (dC, dI) (pw_ty cI cB cE cL cZ) y_MO_remove w_MO_remove ({ frames := 2, cells := 0, slots := 0, locals := 42 }) [.ref (am 0), .int f] (mw n am cI cL cZ S) (mw n am cI cL cZ) sz (fun r S2 => (S2 7 3 = 1 ∧ pd_nof f ∧ pd_sa S S2) ∨ (S2 7 3 = 0 ∧ ∃ i, i < 16 ∧ f = nI i ∧ r = nI (S 5 (2 * i)) ∧ pd_rem S S2 i)) := by
  refine Met.ofW (cc := b_MO_remove) (maxL := 3) (ret := (some .boolean)) (by decide) rfl ?_
  intro p e s m args below meth c s₁ B hml hv
  obtain ⟨rfl, hsz, hP, hK, hD0⟩ := hv
  have hx := B.exec
  have hb := B.bytes
  have hret := B.returns
  have hts := atoms_spec (ws := w_MO_remove) B.pre
  have hg : ∀ w ∈ wsG, w.before _ s = true := fun w h => hts w (List.mem_cons_of_mem _ h)
  have hown : s.vm.findClass "PageDriveModel" = some m.cls := findClass_of_methodNamed B.named
  have hlocks := B.notSynchronized
  subst hsz
  have hD := hD0.self (sz := s.heap.size)
  generalize hAe : va_A (mw n am cI cL cZ S) s.heap.size = A at hD ⊢
  have hA : ∀ q : Nat, s.heap.size ≤ q → A q := fun q h => by rw [← hAe]; exact Or.inr h
  have hS : va_S A s.heap s.heap [] := va_S.rf
  have hl := lv_entry ([.ref (am 0), .int f]) (n := 3) (Nat.le_of_ble_eq_true rfl)
  rw [lg_entry_eq]
  generalize (lg_sl ([.ref (am 0), .int f]) ++ List.replicate (3 - (lg_sl ([.ref (am 0), .int f])).length) Slot.unset).toArray = ls at hl ⊢
  have hl : lv_has ls 3 [(0, .ref (am 0)), (1, .int f)] := hl
  refine lv_aload_n hx hb d_MO_remove_0 rfl (lv_at hl 0 rfl) ?_
  refine lv_iconst (v := nI 0) hx hb d_MO_remove_1 (by decide) ?_
  refine pm_thr hx hb hg hown hK hP hD hS (hg (Cond.fieldLink "PageDriveModel" 37 "PageDriveModel" "thrown" "I") (wG_m10 (List.mem_of_getElem? (i := 23) rfl))) d_MO_remove_2 (fun H locs hP hD hS => ?_)
  generalize eS1 : pd_st S 7 3 0 = S1 at hP hD
  have hsa1 : pd_sa S S1 := by rw [← eS1]; exact pd_sa_73 S 0
  have hsa : ∀ v, pd_sa S (pd_st S1 7 3 v) := fun v => pd_sa_tr hsa1 (pd_sa_73 S1 v)
  have h173 : S1 7 3 = 0 := by rw [← eS1, pd_self]
  have hb1 : ∀ b, b ≠ 7 → S1 b = S b := fun b hb => by rw [← eS1, pd_bk _ hb]
  have hv1 := pd_sa_v hsa1 hv
  refine lv_iload_n hx hb d_MO_remove_5 rfl (lv_at hl 1 rfl) ?_
  refine pw_callip (va_runS (As := [.int f]) (rest := []) ⟨hx, hb, hml, hown, hg⟩ (c_MO_noFile l dC dI cI cB cE cL cZ (mw n am cI cL cZ S1) f H.size) (cwS 1 hg (gi_S (fun _ h => h) (wG_m11 (List.mem_of_getElem? (i := 38) rfl)) (wG_m11 (List.mem_of_getElem? (i := 39) rfl)) (wG_m1 (List.mem_of_getElem? (i := 6) rfl)) (wG_m12 (List.mem_of_getElem? (i := 0) rfl))) rfl rfl rfl (by decide +kernel) ⟨Nat.le_of_ble_eq_true rfl, Nat.le_of_ble_eq_true rfl⟩) (pw_ps hK hP hD [.int f]) rfl rfl hl.1 rfl (lv_room (Nat.le_of_ble_eq_true rfl)) d_MO_remove_6 ⟨Nat.le_of_ble_eq_true rfl, Nat.le_of_ble_eq_true rfl⟩) hD hS hA (fun r2 H locs hr hP hD hS => ?_)
  rcases hr with ⟨i, hi, rfl, rfl⟩ | ⟨hno, rfl⟩
  · refine pq_if_eq (tgt := 26) hx hb (by omega) d_MO_remove_9 (by decide) (fun _ => ?_) (fun h9 => absurd h9 (by omega))
    have hs5 := (hv.1 (2 * i) (by omega)).2.1
    have hs4 := (hv.1 (2 * i) (by omega)).1
    have hl6 := hlw i hi
    have e5 : S1 5 (2 * i) = S 5 (2 * i) := by rw [hb1 5 (by decide)]
    have e6 : S1 6 i = S 6 i := by rw [hb1 6 (by decide)]
    refine lv_aload_n hx hb d_MO_remove_26 rfl (lv_at hl 0 rfl) ?_
    refine va_get (C := "PageDriveModel") (T := F_MO) (N := 11) hx hb hg iw_MO hown hK hP (0) mw_g0 rfl 7 (by decide) (hg (Cond.fieldLink "PageDriveModel" 23 "PageDriveModel" "there" "[Z") (wG_m10 (List.mem_of_getElem? (i := 30) rfl))) (fun _ h9 => h9) rfl d_MO_remove_27 ?_
    refine lv_iconst (v := nI 2) hx hb d_MO_remove_30 (by decide) ?_
    refine lv_iload_n hx hb d_MO_remove_31 rfl (lv_at hl 1 rfl) ?_
    refine pq_imul hx hb d_MO_remove_32 ?_
    refine pq_zald hx hb hK hP 5 4 mw_g5 rfl (by omega) (by omega) d_MO_remove_33 ?_
    refine pq_top (y := nI (S 5 (2 * i))) (by rw [e5]) ?_
    refine lv_istore_n (lv' := [(2, .int (nI (S 5 (2 * i)))), (0, .ref (am 0)), (1, .int (nI i))]) hx hb d_MO_remove_34 rfl hl (by decide) rfl (fun ls hl => ?_)
    refine lv_aload_n hx hb d_MO_remove_35 rfl (lv_at hl 1 rfl) ?_
    refine lv_iload_n hx hb d_MO_remove_36 rfl (lv_at hl 2 rfl) ?_
    refine lv_iconst (v := nI 0) hx hb d_MO_remove_37 (by decide) ?_
    refine pw_callv (va_runV (As := [.int (nI i), .int (nI 0)]) (rest := []) ⟨hx, hb, hml, hown, hg⟩ (c_MO_shorten l dC dI cI cB cE cL cZ n am S1 i 0 hi (by omega) (by omega) H.size) (cwV 2 hg (gi_V (fun _ h => h) (wG_m12 (List.mem_of_getElem? (i := 18) rfl)) (wG_m12 (List.mem_of_getElem? (i := 19) rfl)) (wG_m14 (List.mem_of_getElem? (i := 15) rfl)) (wG_m1 (List.mem_of_getElem? (i := 6) rfl)) (wG_m12 (List.mem_of_getElem? (i := 20) rfl))) rfl rfl rfl (by decide +kernel) ⟨Nat.le_of_ble_eq_true rfl, Nat.le_of_ble_eq_true rfl⟩) (pw_pv hK hP hD (va_recv hK hP (ci := 4) (q0 := 0) rfl mw_g0) [.int (nI i), .int (nI 0)]) rfl rfl hl.1 rfl (lv_room (Nat.le_of_ble_eq_true rfl)) d_MO_remove_38 ⟨Nat.le_of_ble_eq_true rfl, Nat.le_of_ble_eq_true rfl⟩) hD hS hA (fun T H locs hr hP hD hS => ?_)
    refine lv_aload_n hx hb d_MO_remove_41 rfl (lv_at hl 1 rfl) ?_
    refine va_get (C := "PageDriveModel") (T := F_MO) (N := 11) hx hb hg iw_MO hown hK hP (0) mw_g0 rfl 7 (by decide) (hg (Cond.fieldLink "PageDriveModel" 23 "PageDriveModel" "there" "[Z") (wG_m10 (List.mem_of_getElem? (i := 30) rfl))) (fun _ h9 => h9) rfl d_MO_remove_42 ?_
    refine lv_iconst (v := nI 2) hx hb d_MO_remove_45 (by decide) ?_
    refine lv_iload_n hx hb d_MO_remove_46 rfl (lv_at hl 2 rfl) ?_
    refine pq_imul hx hb d_MO_remove_47 ?_
    refine lv_iconst (v := nI 0) hx hb d_MO_remove_48 (by decide) ?_
    refine pm_there hx hb hK hP hD hS (by omega) (by omega) rfl d_MO_remove_49 (fun H locs hP hD hS => ?_)
    generalize eS3 : pd_st T 5 (2 * i) 0 = S3 at hP hD
    refine lv_iload_n hx hb d_MO_remove_50 rfl (lv_at hl 0 rfl) ?_
    have h0 : (if 0 < S1 6 i then 0 else S1 6 i) = 0 := by
      by_cases q : 0 < S1 6 i
      · rw [if_pos q]
      · rw [if_neg q]
        omega
    have hrem : pd_rem S S3 i := by
      refine ⟨_, pd_sh_sa hsa1 pd_sh_m, ?_⟩
      rw [← eS3, hr, h0]
      rw [pd_st_cm _ (show (6 : Nat) ≠ 5 by decide)]
      exact pd_sa_rf _
    have h73 : S3 7 3 = 0 := by rw [← eS3, pd_bk _ (by decide), hr, pd_bk _ (by decide), pd_bk _ (by decide), h173]
    exact W.zret (v := (nI (S 5 (2 * i)))) hx hb hret (pw_n01 hs5 rfl).1 (fun t9 ht9 hW9 => ⟨⟨_, _, rfl, Or.inr ⟨h73, i, hi, rfl, rfl, hrem⟩, by rw [ht9]; exact hP, va_K.moved hW9.alike hK, hD⟩, hS.F ht9⟩) hS.2.2 d_MO_remove_51
  · refine pq_if_eq (tgt := 26) hx hb (by omega) d_MO_remove_9 (by decide) (fun h9 => absurd h9 (by omega)) (fun _ => ?_)
    refine lv_aload_n hx hb d_MO_remove_12 rfl (lv_at hl 0 rfl) ?_
    refine lv_iconst (v := nI 1) hx hb d_MO_remove_13 (by decide) ?_
    refine pw_calli (va_runV (As := [.int (nI 1)]) (rest := []) ⟨hx, hb, hml, hown, hg⟩ (c_MO_fail l dC dI cI cB cE cL cZ n am S1 1 H.size) (cwV 1 hg (gi_V (fun _ h => h) (wG_m11 (List.mem_of_getElem? (i := 30) rfl)) (wG_m11 (List.mem_of_getElem? (i := 31) rfl)) (wG_m14 (List.mem_of_getElem? (i := 11) rfl)) (wG_m1 (List.mem_of_getElem? (i := 6) rfl)) (wG_m11 (List.mem_of_getElem? (i := 32) rfl))) rfl rfl rfl (by decide +kernel) ⟨Nat.le_of_ble_eq_true rfl, Nat.le_of_ble_eq_true rfl⟩) (pw_pv hK hP hD (va_recv hK hP (ci := 4) (q0 := 0) rfl mw_g0) [.int (nI 1)]) rfl rfl hl.1 rfl (lv_room (Nat.le_of_ble_eq_true rfl)) d_MO_remove_14 ⟨Nat.le_of_ble_eq_true rfl, Nat.le_of_ble_eq_true rfl⟩) hD hS hA (fun rf S2 H locs hr hP hD hS => ?_)
    obtain ⟨rfl, eS2⟩ := hr
    refine pq_if_le (tgt := 24) hx hb (by omega) d_MO_remove_17 (by decide) (fun _ => ?_) (fun h9 => absurd h9 (by omega))
    refine lv_iconst (v := nI 0) hx hb d_MO_remove_24 (by decide) ?_
    exact W.zret (v := (nI 0)) hx hb hret rfl (fun t9 ht9 hW9 => ⟨⟨_, S2, rfl, Or.inl ⟨by rw [eS2, pd_self], hno, by rw [eS2]; exact hsa 1⟩, by rw [ht9]; exact hP, va_K.moved hW9.alike hK, hD⟩, hS.F ht9⟩) hS.2.2 d_MO_remove_25
set_option maxHeartbeats 4000000 in
set_option maxRecDepth 100000 in
/-- twin -/
theorem c_MO_twin (l : Launch) (dC : Nat → ClassId) (dI : Nat → Nat → Nat) (cI cB cE cL cZ : ClassId) (n : Nat) (am : Nat → Nat) (S : pdS) (f z : Int32) (hv : pd_v 1024 S) (sz : Nat) : CMi l (dC, dI) (pw_ty cI cB cE cL cZ) y_MO_twin w_MO_twin ({ frames := 2, cells := 0, slots := 0, locals := 42 }) [.ref (am 0), .int f, .int z] (mw n am cI cL cZ S) (mw n am cI cL cZ) sz (fun r S2 => (S2 7 3 = 1 ∧ (pd_nof f ∨ pd_nof z) ∧ pd_sa S S2) ∨ (S2 7 3 = 2 ∧ (∃ i j, i < 16 ∧ f = nI i ∧ j < 16 ∧ z = nI j ∧ S 5 (2 * i) = 0) ∧ pd_sa S S2) ∨ (S2 7 3 = 0 ∧ ∃ i j, i < 16 ∧ f = nI i ∧ j < 16 ∧ z = nI j ∧ S 5 (2 * i) ≠ 0 ∧ r = nI (S 4 (2 * i)) ∧ pd_twi S S2 i j)) := by
  refine Met.ofW (cc := b_MO_twin) (maxL := 3) (ret := (some .int)) (by decide) rfl ?_
  intro p e s m args below meth c s₁ B hml hv
  obtain ⟨rfl, hsz, hP, hK, hD0⟩ := hv
  have hx := B.exec
  have hb := B.bytes
  have hret := B.returns
  have hts := atoms_spec (ws := w_MO_twin) B.pre
  have hg : ∀ w ∈ wsG, w.before _ s = true := fun w h => hts w (List.mem_cons_of_mem _ h)
  have hown : s.vm.findClass "PageDriveModel" = some m.cls := findClass_of_methodNamed B.named
  have hlocks := B.notSynchronized
  subst hsz
  have hD := hD0.self (sz := s.heap.size)
  generalize hAe : va_A (mw n am cI cL cZ S) s.heap.size = A at hD ⊢
  have hA : ∀ q : Nat, s.heap.size ≤ q → A q := fun q h => by rw [← hAe]; exact Or.inr h
  have hS : va_S A s.heap s.heap [] := va_S.rf
  have hl := lv_entry ([.ref (am 0), .int f, .int z]) (n := 3) (Nat.le_of_ble_eq_true rfl)
  rw [lg_entry_eq]
  generalize (lg_sl ([.ref (am 0), .int f, .int z]) ++ List.replicate (3 - (lg_sl ([.ref (am 0), .int f, .int z])).length) Slot.unset).toArray = ls at hl ⊢
  have hl : lv_has ls 3 [(0, .ref (am 0)), (1, .int f), (2, .int z)] := hl
  refine lv_aload_n hx hb d_MO_twin_0 rfl (lv_at hl 0 rfl) ?_
  refine lv_iconst (v := nI 0) hx hb d_MO_twin_1 (by decide) ?_
  refine pm_thr hx hb hg hown hK hP hD hS (hg (Cond.fieldLink "PageDriveModel" 37 "PageDriveModel" "thrown" "I") (wG_m10 (List.mem_of_getElem? (i := 23) rfl))) d_MO_twin_2 (fun H locs hP hD hS => ?_)
  generalize eS1 : pd_st S 7 3 0 = S1 at hP hD
  have hsa1 : pd_sa S S1 := by rw [← eS1]; exact pd_sa_73 S 0
  have hsa : ∀ v, pd_sa S (pd_st S1 7 3 v) := fun v => pd_sa_tr hsa1 (pd_sa_73 S1 v)
  have h173 : S1 7 3 = 0 := by rw [← eS1, pd_self]
  have hb1 : ∀ b, b ≠ 7 → S1 b = S b := fun b hb => by rw [← eS1, pd_bk _ hb]
  have hv1 := pd_sa_v hsa1 hv
  refine lv_iload_n hx hb d_MO_twin_5 rfl (lv_at hl 1 rfl) ?_
  refine pw_callip (va_runS (As := [.int f]) (rest := []) ⟨hx, hb, hml, hown, hg⟩ (c_MO_noFile l dC dI cI cB cE cL cZ (mw n am cI cL cZ S1) f H.size) (cwS 1 hg (gi_S (fun _ h => h) (wG_m11 (List.mem_of_getElem? (i := 38) rfl)) (wG_m11 (List.mem_of_getElem? (i := 39) rfl)) (wG_m1 (List.mem_of_getElem? (i := 6) rfl)) (wG_m12 (List.mem_of_getElem? (i := 0) rfl))) rfl rfl rfl (by decide +kernel) ⟨Nat.le_of_ble_eq_true rfl, Nat.le_of_ble_eq_true rfl⟩) (pw_ps hK hP hD [.int f]) rfl rfl hl.1 rfl (lv_room (Nat.le_of_ble_eq_true rfl)) d_MO_twin_6 ⟨Nat.le_of_ble_eq_true rfl, Nat.le_of_ble_eq_true rfl⟩) hD hS hA (fun r2 H locs hr hP hD hS => ?_)
  rcases hr with ⟨i, hi, rfl, rfl⟩ | ⟨hno, rfl⟩
  · refine pq_if_ne (tgt := 19) hx hb (by omega) d_MO_twin_9 (by decide) (fun h9 => absurd h9 (by omega)) (fun _ => ?_)
    refine lv_iload_n hx hb d_MO_twin_12 rfl (lv_at hl 2 rfl) ?_
    refine pw_callip (va_runS (As := [.int z]) (rest := []) ⟨hx, hb, hml, hown, hg⟩ (c_MO_noFile l dC dI cI cB cE cL cZ (mw n am cI cL cZ S1) z H.size) (cwS 1 hg (gi_S (fun _ h => h) (wG_m11 (List.mem_of_getElem? (i := 38) rfl)) (wG_m11 (List.mem_of_getElem? (i := 39) rfl)) (wG_m1 (List.mem_of_getElem? (i := 6) rfl)) (wG_m12 (List.mem_of_getElem? (i := 0) rfl))) rfl rfl rfl (by decide +kernel) ⟨Nat.le_of_ble_eq_true rfl, Nat.le_of_ble_eq_true rfl⟩) (pw_ps hK hP hD [.int z]) rfl rfl hl.1 rfl (lv_room (Nat.le_of_ble_eq_true rfl)) d_MO_twin_13 ⟨Nat.le_of_ble_eq_true rfl, Nat.le_of_ble_eq_true rfl⟩) hD hS hA (fun r3 H locs hr hP hD hS => ?_)
    rcases hr with ⟨j, hj, rfl, rfl⟩ | ⟨hno, rfl⟩
    · refine pq_if_eq (tgt := 25) hx hb (by omega) d_MO_twin_16 (by decide) (fun _ => ?_) (fun h9 => absurd h9 (by omega))
      have hs4 := (hv1.1 (2 * i) (by omega)).1
      have hs5 := (hv1.1 (2 * i) (by omega)).2.1
      have e5 : S1 5 (2 * i) = S 5 (2 * i) := by rw [hb1 5 (by decide)]
      have e4 : S1 4 (2 * i) = S 4 (2 * i) := by rw [hb1 4 (by decide)]
      refine lv_aload_n hx hb d_MO_twin_25 rfl (lv_at hl 0 rfl) ?_
      refine va_get (C := "PageDriveModel") (T := F_MO) (N := 11) hx hb hg iw_MO hown hK hP (0) mw_g0 rfl 7 (by decide) (hg (Cond.fieldLink "PageDriveModel" 23 "PageDriveModel" "there" "[Z") (wG_m10 (List.mem_of_getElem? (i := 30) rfl))) (fun _ h9 => h9) rfl d_MO_twin_26 ?_
      refine lv_iconst (v := nI 2) hx hb d_MO_twin_29 (by decide) ?_
      refine lv_iload_n hx hb d_MO_twin_30 rfl (lv_at hl 1 rfl) ?_
      refine pq_imul hx hb d_MO_twin_31 ?_
      refine pq_zald hx hb hK hP 5 4 mw_g5 rfl (by omega) (by omega) d_MO_twin_32 ?_
      refine pq_if_ne (tgt := 42) hx hb (by omega) d_MO_twin_33 (by decide) (fun h1 => ?_) (fun h1 => ?_)
      · refine lv_iload_n hx hb d_MO_twin_42 rfl (lv_at hl 1 rfl) ?_
        refine lv_iload_n hx hb d_MO_twin_43 rfl (lv_at hl 2 rfl) ?_
        refine pq_icmp_eq (tgt := 57) hx hb (by omega) (by omega) d_MO_twin_44 (by decide) (fun h2 => ?_) (fun h2 => ?_)
        · subst h2
          have hbe := pd_be_self S1 (2 * i)
          have hb7 : S1 7 = S1 7 := rfl
          refine lv_aload_n hx hb d_MO_twin_57 rfl (lv_at hl 0 rfl) ?_
          refine va_get (C := "PageDriveModel") (T := F_MO) (N := 11) hx hb hg iw_MO hown hK hP (0) mw_g0 rfl 8 (by decide) (hg (Cond.fieldLink "PageDriveModel" 27 "PageDriveModel" "lows" "[I") (wG_m10 (List.mem_of_getElem? (i := 31) rfl))) (fun _ h9 => h9) rfl d_MO_twin_58 ?_
          refine lv_iload_n hx hb d_MO_twin_61 rfl (lv_at hl 2 rfl) ?_
          refine lv_iconst (v := nI 0) hx hb d_MO_twin_62 (by decide) ?_
          refine pm_low hx hb hK hP hD hS (by omega) rfl d_MO_twin_63 (fun H locs hP hD hS => ?_)
          generalize eS4 : pd_st S1 6 i 0 = S4 at hP hD
          refine lv_aload_n hx hb d_MO_twin_64 rfl (lv_at hl 0 rfl) ?_
          refine va_get (C := "PageDriveModel") (T := F_MO) (N := 11) hx hb hg iw_MO hown hK hP (0) mw_g0 rfl 6 (by decide) (hg (Cond.fieldLink "PageDriveModel" 20 "PageDriveModel" "sizes" "[I") (wG_m10 (List.mem_of_getElem? (i := 29) rfl))) (fun _ h9 => h9) rfl d_MO_twin_65 ?_
          refine lv_iconst (v := nI 2) hx hb d_MO_twin_68 (by decide) ?_
          refine lv_iload_n hx hb d_MO_twin_69 rfl (lv_at hl 2 rfl) ?_
          refine pq_imul hx hb d_MO_twin_70 ?_
          refine pq_iald hx hb hK hP 4 0 mw_g4 rfl (by omega) (by omega) d_MO_twin_71 ?_
          have hz4 : S4 4 (2 * i) = S 4 (2 * i) := by rw [← eS4, pd_bk _ (by decide), e4]
          refine pq_top (y := nI (S 4 (2 * i))) (by rw [hz4]) ?_
          exact W.iret (v := (nI (S 4 (2 * i)))) hx hb hret (fun t9 ht9 hW9 => ⟨⟨_, _, rfl, Or.inr (Or.inr ⟨by rw [← eS4, pd_bk _ (by decide), h173], i, i, hi, rfl, hi, rfl, by omega, rfl, ⟨_, pd_be_sa (by omega) hsa1 hbe, by rw [eS4]; exact pd_sa_rf _⟩⟩), by rw [ht9]; exact hP, va_K.moved hW9.alike hK, hD⟩, hS.F ht9⟩) hS.2.2 d_MO_twin_72
        · refine lv_aload_n hx hb d_MO_twin_47 rfl (lv_at hl 0 rfl) ?_
          refine lv_iconst (v := nI 2) hx hb d_MO_twin_48 (by decide) ?_
          refine lv_iload_n hx hb d_MO_twin_49 rfl (lv_at hl 2 rfl) ?_
          refine pq_imul hx hb d_MO_twin_50 ?_
          refine lv_iconst (v := nI 2) hx hb d_MO_twin_51 (by decide) ?_
          refine lv_iload_n hx hb d_MO_twin_52 rfl (lv_at hl 1 rfl) ?_
          refine pq_imul hx hb d_MO_twin_53 ?_
          refine pw_callv (va_runV (As := [.int (nI (2 * j)), .int (nI (2 * i))]) (rest := []) ⟨hx, hb, hml, hown, hg⟩ (c_MO_become l dC dI cI cB cE cL cZ n am S1 (2 * j) (2 * i) (by omega) (by omega) (by omega) hs4 hs5 H.size) (cwV 2 hg (gi_V (fun _ h => h) (wG_m12 (List.mem_of_getElem? (i := 29) rfl)) (wG_m12 (List.mem_of_getElem? (i := 30) rfl)) (wG_m14 (List.mem_of_getElem? (i := 16) rfl)) (wG_m1 (List.mem_of_getElem? (i := 6) rfl)) (wG_m12 (List.mem_of_getElem? (i := 31) rfl))) rfl rfl rfl (by decide +kernel) ⟨Nat.le_of_ble_eq_true rfl, Nat.le_of_ble_eq_true rfl⟩) (pw_pv hK hP hD (va_recv hK hP (ci := 4) (q0 := 0) rfl mw_g0) [.int (nI (2 * j)), .int (nI (2 * i))]) rfl rfl hl.1 rfl (lv_room (Nat.le_of_ble_eq_true rfl)) d_MO_twin_54 ⟨Nat.le_of_ble_eq_true rfl, Nat.le_of_ble_eq_true rfl⟩) hD hS hA (fun T H locs hr hP hD hS => ?_)
          obtain ⟨hbe, hb7, -⟩ := hr
          refine lv_aload_n hx hb d_MO_twin_57 rfl (lv_at hl 0 rfl) ?_
          refine va_get (C := "PageDriveModel") (T := F_MO) (N := 11) hx hb hg iw_MO hown hK hP (0) mw_g0 rfl 8 (by decide) (hg (Cond.fieldLink "PageDriveModel" 27 "PageDriveModel" "lows" "[I") (wG_m10 (List.mem_of_getElem? (i := 31) rfl))) (fun _ h9 => h9) rfl d_MO_twin_58 ?_
          refine lv_iload_n hx hb d_MO_twin_61 rfl (lv_at hl 2 rfl) ?_
          refine lv_iconst (v := nI 0) hx hb d_MO_twin_62 (by decide) ?_
          refine pm_low hx hb hK hP hD hS (by omega) rfl d_MO_twin_63 (fun H locs hP hD hS => ?_)
          generalize eS5 : pd_st T 6 j 0 = S5 at hP hD
          refine lv_aload_n hx hb d_MO_twin_64 rfl (lv_at hl 0 rfl) ?_
          refine va_get (C := "PageDriveModel") (T := F_MO) (N := 11) hx hb hg iw_MO hown hK hP (0) mw_g0 rfl 6 (by decide) (hg (Cond.fieldLink "PageDriveModel" 20 "PageDriveModel" "sizes" "[I") (wG_m10 (List.mem_of_getElem? (i := 29) rfl))) (fun _ h9 => h9) rfl d_MO_twin_65 ?_
          refine lv_iconst (v := nI 2) hx hb d_MO_twin_68 (by decide) ?_
          refine lv_iload_n hx hb d_MO_twin_69 rfl (lv_at hl 2 rfl) ?_
          refine pq_imul hx hb d_MO_twin_70 ?_
          refine pq_iald hx hb hK hP 4 0 mw_g4 rfl (by omega) (by omega) d_MO_twin_71 ?_
          have hz4 : S5 4 (2 * j) = S 4 (2 * i) := by rw [← eS5, pd_bk _ (by decide), hbe.2.2.1, va_up_self, e4]
          refine pq_top (y := nI (S 4 (2 * i))) (by rw [hz4]) ?_
          exact W.iret (v := (nI (S 4 (2 * i)))) hx hb hret (fun t9 ht9 hW9 => ⟨⟨_, _, rfl, Or.inr (Or.inr ⟨by rw [← eS5, pd_bk _ (by decide), hb7, h173], i, j, hi, rfl, hj, rfl, by omega, rfl, ⟨_, pd_be_sa (by omega) hsa1 hbe, by rw [eS5]; exact pd_sa_rf _⟩⟩), by rw [ht9]; exact hP, va_K.moved hW9.alike hK, hD⟩, hS.F ht9⟩) hS.2.2 d_MO_twin_72
      · refine lv_aload_n hx hb d_MO_twin_36 rfl (lv_at hl 0 rfl) ?_
        refine lv_iconst (v := nI 2) hx hb d_MO_twin_37 (by decide) ?_
        refine pw_calli (va_runV (As := [.int (nI 2)]) (rest := []) ⟨hx, hb, hml, hown, hg⟩ (c_MO_fail l dC dI cI cB cE cL cZ n am S1 2 H.size) (cwV 1 hg (gi_V (fun _ h => h) (wG_m11 (List.mem_of_getElem? (i := 30) rfl)) (wG_m11 (List.mem_of_getElem? (i := 31) rfl)) (wG_m14 (List.mem_of_getElem? (i := 11) rfl)) (wG_m1 (List.mem_of_getElem? (i := 6) rfl)) (wG_m11 (List.mem_of_getElem? (i := 32) rfl))) rfl rfl rfl (by decide +kernel) ⟨Nat.le_of_ble_eq_true rfl, Nat.le_of_ble_eq_true rfl⟩) (pw_pv hK hP hD (va_recv hK hP (ci := 4) (q0 := 0) rfl mw_g0) [.int (nI 2)]) rfl rfl hl.1 rfl (lv_room (Nat.le_of_ble_eq_true rfl)) d_MO_twin_38 ⟨Nat.le_of_ble_eq_true rfl, Nat.le_of_ble_eq_true rfl⟩) hD hS hA (fun rf S2 H locs hr hP hD hS => ?_)
        obtain ⟨rfl, eS2⟩ := hr
        exact W.iret (v := (nI 0)) hx hb hret (fun t9 ht9 hW9 => ⟨⟨_, S2, rfl, Or.inr (Or.inl ⟨by rw [eS2, pd_self], ⟨i, j, hi, rfl, hj, rfl, by omega⟩, by rw [eS2]; exact hsa 2⟩), by rw [ht9]; exact hP, va_K.moved hW9.alike hK, hD⟩, hS.F ht9⟩) hS.2.2 d_MO_twin_41
    · refine pq_if_eq (tgt := 25) hx hb (by omega) d_MO_twin_16 (by decide) (fun h9 => absurd h9 (by omega)) (fun _ => ?_)
      refine lv_aload_n hx hb d_MO_twin_19 rfl (lv_at hl 0 rfl) ?_
      refine lv_iconst (v := nI 1) hx hb d_MO_twin_20 (by decide) ?_
      refine pw_calli (va_runV (As := [.int (nI 1)]) (rest := []) ⟨hx, hb, hml, hown, hg⟩ (c_MO_fail l dC dI cI cB cE cL cZ n am S1 1 H.size) (cwV 1 hg (gi_V (fun _ h => h) (wG_m11 (List.mem_of_getElem? (i := 30) rfl)) (wG_m11 (List.mem_of_getElem? (i := 31) rfl)) (wG_m14 (List.mem_of_getElem? (i := 11) rfl)) (wG_m1 (List.mem_of_getElem? (i := 6) rfl)) (wG_m11 (List.mem_of_getElem? (i := 32) rfl))) rfl rfl rfl (by decide +kernel) ⟨Nat.le_of_ble_eq_true rfl, Nat.le_of_ble_eq_true rfl⟩) (pw_pv hK hP hD (va_recv hK hP (ci := 4) (q0 := 0) rfl mw_g0) [.int (nI 1)]) rfl rfl hl.1 rfl (lv_room (Nat.le_of_ble_eq_true rfl)) d_MO_twin_21 ⟨Nat.le_of_ble_eq_true rfl, Nat.le_of_ble_eq_true rfl⟩) hD hS hA (fun rf S2 H locs hr hP hD hS => ?_)
      obtain ⟨rfl, eS2⟩ := hr
      exact W.iret (v := (nI 0)) hx hb hret (fun t9 ht9 hW9 => ⟨⟨_, S2, rfl, Or.inl ⟨by rw [eS2, pd_self], Or.inr hno, by rw [eS2]; exact hsa 1⟩, by rw [ht9]; exact hP, va_K.moved hW9.alike hK, hD⟩, hS.F ht9⟩) hS.2.2 d_MO_twin_24
  · refine pq_if_ne (tgt := 19) hx hb (by omega) d_MO_twin_9 (by decide) (fun _ => ?_) (fun h9 => absurd h9 (by omega))
    refine lv_aload_n hx hb d_MO_twin_19 rfl (lv_at hl 0 rfl) ?_
    refine lv_iconst (v := nI 1) hx hb d_MO_twin_20 (by decide) ?_
    refine pw_calli (va_runV (As := [.int (nI 1)]) (rest := []) ⟨hx, hb, hml, hown, hg⟩ (c_MO_fail l dC dI cI cB cE cL cZ n am S1 1 H.size) (cwV 1 hg (gi_V (fun _ h => h) (wG_m11 (List.mem_of_getElem? (i := 30) rfl)) (wG_m11 (List.mem_of_getElem? (i := 31) rfl)) (wG_m14 (List.mem_of_getElem? (i := 11) rfl)) (wG_m1 (List.mem_of_getElem? (i := 6) rfl)) (wG_m11 (List.mem_of_getElem? (i := 32) rfl))) rfl rfl rfl (by decide +kernel) ⟨Nat.le_of_ble_eq_true rfl, Nat.le_of_ble_eq_true rfl⟩) (pw_pv hK hP hD (va_recv hK hP (ci := 4) (q0 := 0) rfl mw_g0) [.int (nI 1)]) rfl rfl hl.1 rfl (lv_room (Nat.le_of_ble_eq_true rfl)) d_MO_twin_21 ⟨Nat.le_of_ble_eq_true rfl, Nat.le_of_ble_eq_true rfl⟩) hD hS hA (fun rf S2 H locs hr hP hD hS => ?_)
    obtain ⟨rfl, eS2⟩ := hr
    exact W.iret (v := (nI 0)) hx hb hret (fun t9 ht9 hW9 => ⟨⟨_, S2, rfl, Or.inl ⟨by rw [eS2, pd_self], Or.inl hno, by rw [eS2]; exact hsa 1⟩, by rw [ht9]; exact hP, va_K.moved hW9.alike hK, hD⟩, hS.F ht9⟩) hS.2.2 d_MO_twin_24
set_option maxHeartbeats 4000000 in
set_option maxRecDepth 100000 in
/-- sync -/
theorem c_MO_sync (l : Launch) (dC : Nat → ClassId) (dI : Nat → Nat → Nat) (cI cB cE cL cZ : ClassId) (n : Nat) (am : Nat → Nat) (S : pdS) (f : Int32) (hv : pd_v 1024 S) (sz : Nat) : CMi l (dC, dI) (pw_ty cI cB cE cL cZ) y_MO_sync w_MO_sync ({ frames := 2, cells := 0, slots := 0, locals := 44 }) [.ref (am 0), .int f] (mw n am cI cL cZ S) (mw n am cI cL cZ) sz (fun r S2 => (S2 7 3 = 1 ∧ pd_nof f ∧ pd_sa S S2) ∨ (S2 7 3 = 0 ∧ ∃ i, i < 16 ∧ f = nI i ∧ r = nI (pd_un S i) ∧ pd_set S S2 i)) := by
  refine Met.ofW (cc := b_MO_sync) (maxL := 4) (ret := (some .int)) (by decide) rfl ?_
  intro p e s m args below meth c s₁ B hml hv
  obtain ⟨rfl, hsz, hP, hK, hD0⟩ := hv
  have hx := B.exec
  have hb := B.bytes
  have hret := B.returns
  have hts := atoms_spec (ws := w_MO_sync) B.pre
  have hg : ∀ w ∈ wsG, w.before _ s = true := fun w h => hts w (List.mem_cons_of_mem _ h)
  have hown : s.vm.findClass "PageDriveModel" = some m.cls := findClass_of_methodNamed B.named
  have hlocks := B.notSynchronized
  subst hsz
  have hD := hD0.self (sz := s.heap.size)
  generalize hAe : va_A (mw n am cI cL cZ S) s.heap.size = A at hD ⊢
  have hA : ∀ q : Nat, s.heap.size ≤ q → A q := fun q h => by rw [← hAe]; exact Or.inr h
  have hS : va_S A s.heap s.heap [] := va_S.rf
  have hl := lv_entry ([.ref (am 0), .int f]) (n := 4) (Nat.le_of_ble_eq_true rfl)
  rw [lg_entry_eq]
  generalize (lg_sl ([.ref (am 0), .int f]) ++ List.replicate (4 - (lg_sl ([.ref (am 0), .int f])).length) Slot.unset).toArray = ls at hl ⊢
  have hl : lv_has ls 4 [(0, .ref (am 0)), (1, .int f)] := hl
  refine lv_aload_n hx hb d_MO_sync_0 rfl (lv_at hl 0 rfl) ?_
  refine lv_iconst (v := nI 0) hx hb d_MO_sync_1 (by decide) ?_
  refine pm_thr hx hb hg hown hK hP hD hS (hg (Cond.fieldLink "PageDriveModel" 37 "PageDriveModel" "thrown" "I") (wG_m10 (List.mem_of_getElem? (i := 23) rfl))) d_MO_sync_2 (fun H locs hP hD hS => ?_)
  generalize eS1 : pd_st S 7 3 0 = S1 at hP hD
  have hsa1 : pd_sa S S1 := by rw [← eS1]; exact pd_sa_73 S 0
  have hsa : ∀ v, pd_sa S (pd_st S1 7 3 v) := fun v => pd_sa_tr hsa1 (pd_sa_73 S1 v)
  have h173 : S1 7 3 = 0 := by rw [← eS1, pd_self]
  have hb1 : ∀ b, b ≠ 7 → S1 b = S b := fun b hb => by rw [← eS1, pd_bk _ hb]
  have hv1 := pd_sa_v hsa1 hv
  refine lv_iload_n hx hb d_MO_sync_5 rfl (lv_at hl 1 rfl) ?_
  refine pw_callip (va_runS (As := [.int f]) (rest := []) ⟨hx, hb, hml, hown, hg⟩ (c_MO_noFile l dC dI cI cB cE cL cZ (mw n am cI cL cZ S1) f H.size) (cwS 1 hg (gi_S (fun _ h => h) (wG_m11 (List.mem_of_getElem? (i := 38) rfl)) (wG_m11 (List.mem_of_getElem? (i := 39) rfl)) (wG_m1 (List.mem_of_getElem? (i := 6) rfl)) (wG_m12 (List.mem_of_getElem? (i := 0) rfl))) rfl rfl rfl (by decide +kernel) ⟨Nat.le_of_ble_eq_true rfl, Nat.le_of_ble_eq_true rfl⟩) (pw_ps hK hP hD [.int f]) rfl rfl hl.1 rfl (lv_room (Nat.le_of_ble_eq_true rfl)) d_MO_sync_6 ⟨Nat.le_of_ble_eq_true rfl, Nat.le_of_ble_eq_true rfl⟩) hD hS hA (fun r2 H locs hr hP hD hS => ?_)
  rcases hr with ⟨i, hi, rfl, rfl⟩ | ⟨hno, rfl⟩
  · refine pq_if_eq (tgt := 18) hx hb (by omega) d_MO_sync_9 (by decide) (fun _ => ?_) (fun h9 => absurd h9 (by omega))
    have hs4 := (hv1.1 (2 * i) (by omega)).1
    have hs4s := (hv1.1 (2 * i + 1) (by omega)).1
    have h400 : pd_pf (S1 4 (2 * i)) ≤ 400 := by unfold pd_pf; omega
    refine lv_iconst (v := nI 0) hx hb d_MO_sync_18 (by decide) ?_
    refine lv_istore_n (lv' := [(2, .int (nI 0)), (0, .ref (am 0)), (1, .int (nI i))]) hx hb d_MO_sync_19 rfl hl (by decide) rfl (fun ls hl => ?_)
    refine lv_iconst (v := nI 0) hx hb d_MO_sync_20 (by decide) ?_
    refine lv_istore_n (lv' := [(3, .int (nI 0)), (2, .int (nI 0)), (0, .ref (am 0)), (1, .int (nI i))]) hx hb d_MO_sync_21 rfl hl (by decide) rfl (fun ls hl => ?_)
    refine pw_loop (fun mm H locs ls => ∃ k : Nat, mm = pd_pf (S1 4 (2 * i)) - k ∧ k ≤ pd_pf (S1 4 (2 * i)) ∧ va_P (dC, dI) pwCl (mw n am cI cL cZ S1) H ∧ va_D A (mw n am cI cL cZ S1) ∧ va_S A s.heap H locs ∧ lv_has ls 4 [(3, .int (nI k)), (2, .int (nI (pd_sm (fun k => if k < pd_pf (S1 4 (2 * i + 1)) ∧ S1 (8 + (2 * i + 1)) k = S1 (8 + 2 * i) k then 0 else 1) k))), (0, .ref (am 0)), (1, .int (nI i))]) ?_ _ _ _ _ ⟨0, rfl, by omega, hP, hD, hS, hl⟩
    rintro mm H locs ls ⟨k, hmm, hk, hP, hD, hS, hl⟩ ih
    refine lv_iload_n hx hb d_MO_sync_22 rfl (lv_at hl 0 rfl) ?_
    refine lv_aload_n hx hb d_MO_sync_23 rfl (lv_at hl 2 rfl) ?_
    refine va_get (C := "PageDriveModel") (T := F_MO) (N := 11) hx hb hg iw_MO hown hK hP (0) mw_g0 rfl 6 (by decide) (hg (Cond.fieldLink "PageDriveModel" 20 "PageDriveModel" "sizes" "[I") (wG_m10 (List.mem_of_getElem? (i := 29) rfl))) (fun _ h9 => h9) rfl d_MO_sync_24 ?_
    refine lv_iconst (v := nI 2) hx hb d_MO_sync_27 (by decide) ?_
    refine lv_iload_n hx hb d_MO_sync_28 rfl (lv_at hl 3 rfl) ?_
    refine pq_imul hx hb d_MO_sync_29 ?_
    refine pq_iald hx hb hK hP 4 0 mw_g4 rfl (by omega) (by omega) d_MO_sync_30 ?_
    refine pw_callip (va_runS (As := [.int (nI (S1 4 (2 * i)))]) (rest := [.int (nI k)]) ⟨hx, hb, hml, hown, hg⟩ (c_MO_needed l dC dI cI cB cE cL cZ (mw n am cI cL cZ S1) (S1 4 (2 * i)) (by omega) H.size) (cwS 1 hg (gi_S (fun _ h => h) (wG_m12 (List.mem_of_getElem? (i := 4) rfl)) (wG_m12 (List.mem_of_getElem? (i := 5) rfl)) (wG_m1 (List.mem_of_getElem? (i := 6) rfl)) (wG_m12 (List.mem_of_getElem? (i := 6) rfl))) rfl rfl rfl (by decide +kernel) ⟨Nat.le_of_ble_eq_true rfl, Nat.le_of_ble_eq_true rfl⟩) (pw_ps hK hP hD [.int (nI (S1 4 (2 * i)))]) rfl rfl hl.1 rfl (lv_room (Nat.le_of_ble_eq_true rfl)) d_MO_sync_31 ⟨Nat.le_of_ble_eq_true rfl, Nat.le_of_ble_eq_true rfl⟩) hD hS hA (fun r3 H locs hr hP hD hS => ?_)
    subst hr
    refine pq_icmp_ge (tgt := 75) hx hb (by omega) (by omega) d_MO_sync_34 (by decide) (fun h1 => ?_) (fun h1 => ?_)
    · have hkk : k = pd_pf (S1 4 (2 * i)) := by omega
      subst hkk
      refine lv_aload_n hx hb d_MO_sync_75 rfl (lv_at hl 2 rfl) ?_
      refine lv_iload_n hx hb d_MO_sync_76 rfl (lv_at hl 3 rfl) ?_
      refine pw_callv (va_runV (As := [.int (nI i)]) (rest := []) ⟨hx, hb, hml, hown, hg⟩ (c_MO_settle l dC dI cI cB cE cL cZ n am S1 i hi hv1 H.size) (cwV 1 hg (gi_V (fun _ h => h) (wG_m12 (List.mem_of_getElem? (i := 39) rfl)) (wG_m13 (List.mem_of_getElem? (i := 0) rfl)) (wG_m14 (List.mem_of_getElem? (i := 18) rfl)) (wG_m1 (List.mem_of_getElem? (i := 6) rfl)) (wG_m13 (List.mem_of_getElem? (i := 1) rfl))) rfl rfl rfl (by decide +kernel) ⟨Nat.le_of_ble_eq_true rfl, Nat.le_of_ble_eq_true rfl⟩) (pw_pv hK hP hD (va_recv hK hP (ci := 4) (q0 := 0) rfl mw_g0) [.int (nI i)]) rfl rfl hl.1 rfl (lv_room (Nat.le_of_ble_eq_true rfl)) d_MO_sync_77 ⟨Nat.le_of_ble_eq_true rfl, Nat.le_of_ble_eq_true rfl⟩) hD hS hA (fun S2 H locs hr hP hD hS => ?_)
      refine lv_iload_n hx hb d_MO_sync_80 rfl (lv_at hl 1 rfl) ?_
      exact W.iret (v := (nI (pd_sm (fun k => if k < pd_pf (S1 4 (2 * i + 1)) ∧ S1 (8 + (2 * i + 1)) k = S1 (8 + 2 * i) k then 0 else 1) (pd_pf (S1 4 (2 * i)))))) hx hb hret (fun t9 ht9 hW9 => ⟨⟨_, S2, rfl, Or.inr ⟨by rw [hr.2, h173], i, hi, rfl, by rw [← pd_un_sa hi hsa1]; rfl, pd_set_sa hi hsa1 hr.1⟩, by rw [ht9]; exact hP, va_K.moved hW9.alike hK, hD⟩, hS.F ht9⟩) hS.2.2 d_MO_sync_81
    · have hpg := hv1.2.1 (2 * i) k (by omega) h1
      have hun := pd_un_m hv1.2.2.1 hi h1
      refine lv_iload_n hx hb d_MO_sync_37 rfl (lv_at hl 1 rfl) ?_
      refine lv_aload_n hx hb d_MO_sync_38 rfl (lv_at hl 2 rfl) ?_
      refine lv_iconst (v := nI 2) hx hb d_MO_sync_39 (by decide) ?_
      refine lv_iload_n hx hb d_MO_sync_40 rfl (lv_at hl 3 rfl) ?_
      refine pq_imul hx hb d_MO_sync_41 ?_
      refine lv_iconst (v := nI 1) hx hb d_MO_sync_42 (by decide) ?_
      refine pq_iadd hx hb d_MO_sync_43 ?_
      refine lv_aload_n hx hb d_MO_sync_44 rfl (lv_at hl 2 rfl) ?_
      refine va_get (C := "PageDriveModel") (T := F_MO) (N := 11) hx hb hg iw_MO hown hK hP (0) mw_g0 rfl 5 (by decide) (hg (Cond.fieldLink "PageDriveModel" 17 "PageDriveModel" "rows" "[I") (wG_m10 (List.mem_of_getElem? (i := 28) rfl))) (fun _ h9 => h9) rfl d_MO_sync_45 ?_
      refine lv_sipush (v := nI 800) hx hb d_MO_sync_48 (by decide) ?_
      refine lv_iload_n hx hb d_MO_sync_51 rfl (lv_at hl 3 rfl) ?_
      refine pq_imul hx hb d_MO_sync_52 ?_
      refine lv_iload_n hx hb d_MO_sync_53 rfl (lv_at hl 0 rfl) ?_
      refine pq_iadd hx hb d_MO_sync_54 ?_
      refine pm_rowld (d := 2 * i) (k := k) hx hb hK hP (by omega) (by omega) (by omega) rfl d_MO_sync_55 ?_
      refine pw_callip (va_runV (As := [.int (nI ((2 * i) + 1)), .int (nI (S1 (8 + (2 * i)) k))]) (rest := [.int (nI (pd_sm (fun k => if k < pd_pf (S1 4 (2 * i + 1)) ∧ S1 (8 + (2 * i + 1)) k = S1 (8 + 2 * i) k then 0 else 1) k))]) ⟨hx, hb, hml, hown, hg⟩ (c_MO_isIn l dC dI cI cB cE cL cZ n am S1 (2 * i + 1) (S1 (8 + 2 * i) k) (by omega) hs4s hpg (fun k hk => hv1.2.1 _ k (by omega) hk) H.size) (cwV 2 hg (gi_V (fun _ h => h) (wG_m12 (List.mem_of_getElem? (i := 36) rfl)) (wG_m12 (List.mem_of_getElem? (i := 37) rfl)) (wG_m14 (List.mem_of_getElem? (i := 17) rfl)) (wG_m1 (List.mem_of_getElem? (i := 6) rfl)) (wG_m12 (List.mem_of_getElem? (i := 38) rfl))) rfl rfl rfl (by decide +kernel) ⟨Nat.le_of_ble_eq_true rfl, Nat.le_of_ble_eq_true rfl⟩) (pw_pv hK hP hD (va_recv hK hP (ci := 4) (q0 := 0) rfl mw_g0) [.int (nI ((2 * i) + 1)), .int (nI (S1 (8 + (2 * i)) k))]) rfl rfl hl.1 rfl (lv_room (Nat.le_of_ble_eq_true rfl)) d_MO_sync_56 ⟨Nat.le_of_ble_eq_true rfl, Nat.le_of_ble_eq_true rfl⟩) hD hS hA (fun r5 H locs hr hP hD hS => ?_)
      rcases hr with ⟨h2, rfl⟩ | ⟨h2, rfl⟩
      · refine pq_if_eq (tgt := 66) hx hb (by omega) d_MO_sync_59 (by decide) (fun h9 => absurd h9 (by omega)) (fun _ => ?_)
        refine lv_iconst (v := nI 0) hx hb d_MO_sync_62 (by decide) ?_
        refine lv_goto (tgt := 67) hx hb d_MO_sync_63 (by decide) ?_
        refine pq_iadd hx hb d_MO_sync_67 ?_
        refine lv_istore_n (lv' := [(2, .int (nI ((pd_sm (fun k => if k < pd_pf (S1 4 (2 * i + 1)) ∧ S1 (8 + (2 * i + 1)) k = S1 (8 + 2 * i) k then 0 else 1) k) + 0))), (3, .int (nI k)), (0, .ref (am 0)), (1, .int (nI i))]) hx hb d_MO_sync_68 rfl hl (by decide) rfl (fun ls hl => ?_)
        refine lv_iinc (v := (nI (k + 1))) (lv' := [(3, .int (nI (k + 1))), (2, .int (nI ((pd_sm (fun k => if k < pd_pf (S1 4 (2 * i + 1)) ∧ S1 (8 + (2 * i + 1)) k = S1 (8 + 2 * i) k then 0 else 1) k) + 0))), (0, .ref (am 0)), (1, .int (nI i))]) hx hb d_MO_sync_69 hl (k := 1) rfl (pq_inc _) (by decide) rfl (fun ls hl => ?_)
        refine lv_goto (tgt := 22) hx hb d_MO_sync_72 (by decide) ?_
        exact ih _ _ _ _ (by omega) ⟨k + 1, rfl, by omega, hP, hD, hS, by simp only [pd_sm]; rw [if_pos (hun.mp h2)]; exact hl⟩
      · refine pq_if_eq (tgt := 66) hx hb (by omega) d_MO_sync_59 (by decide) (fun _ => ?_) (fun h9 => absurd h9 (by omega))
        refine lv_iconst (v := nI 1) hx hb d_MO_sync_66 (by decide) ?_
        refine pq_iadd hx hb d_MO_sync_67 ?_
        refine lv_istore_n (lv' := [(2, .int (nI ((pd_sm (fun k => if k < pd_pf (S1 4 (2 * i + 1)) ∧ S1 (8 + (2 * i + 1)) k = S1 (8 + 2 * i) k then 0 else 1) k) + 1))), (3, .int (nI k)), (0, .ref (am 0)), (1, .int (nI i))]) hx hb d_MO_sync_68 rfl hl (by decide) rfl (fun ls hl => ?_)
        refine lv_iinc (v := (nI (k + 1))) (lv' := [(3, .int (nI (k + 1))), (2, .int (nI ((pd_sm (fun k => if k < pd_pf (S1 4 (2 * i + 1)) ∧ S1 (8 + (2 * i + 1)) k = S1 (8 + 2 * i) k then 0 else 1) k) + 1))), (0, .ref (am 0)), (1, .int (nI i))]) hx hb d_MO_sync_69 hl (k := 1) rfl (pq_inc _) (by decide) rfl (fun ls hl => ?_)
        refine lv_goto (tgt := 22) hx hb d_MO_sync_72 (by decide) ?_
        exact ih _ _ _ _ (by omega) ⟨k + 1, rfl, by omega, hP, hD, hS, by simp only [pd_sm]; rw [if_neg (fun q => by obtain ⟨j, hj, hq⟩ := hun.mpr q; exact h2 j hj hq)]; exact hl⟩
  · refine pq_if_eq (tgt := 18) hx hb (by omega) d_MO_sync_9 (by decide) (fun h9 => absurd h9 (by omega)) (fun _ => ?_)
    refine lv_aload_n hx hb d_MO_sync_12 rfl (lv_at hl 0 rfl) ?_
    refine lv_iconst (v := nI 1) hx hb d_MO_sync_13 (by decide) ?_
    refine pw_calli (va_runV (As := [.int (nI 1)]) (rest := []) ⟨hx, hb, hml, hown, hg⟩ (c_MO_fail l dC dI cI cB cE cL cZ n am S1 1 H.size) (cwV 1 hg (gi_V (fun _ h => h) (wG_m11 (List.mem_of_getElem? (i := 30) rfl)) (wG_m11 (List.mem_of_getElem? (i := 31) rfl)) (wG_m14 (List.mem_of_getElem? (i := 11) rfl)) (wG_m1 (List.mem_of_getElem? (i := 6) rfl)) (wG_m11 (List.mem_of_getElem? (i := 32) rfl))) rfl rfl rfl (by decide +kernel) ⟨Nat.le_of_ble_eq_true rfl, Nat.le_of_ble_eq_true rfl⟩) (pw_pv hK hP hD (va_recv hK hP (ci := 4) (q0 := 0) rfl mw_g0) [.int (nI 1)]) rfl rfl hl.1 rfl (lv_room (Nat.le_of_ble_eq_true rfl)) d_MO_sync_14 ⟨Nat.le_of_ble_eq_true rfl, Nat.le_of_ble_eq_true rfl⟩) hD hS hA (fun rf S2 H locs hr hP hD hS => ?_)
    obtain ⟨rfl, eS2⟩ := hr
    exact W.iret (v := (nI 0)) hx hb hret (fun t9 ht9 hW9 => ⟨⟨_, S2, rfl, Or.inl ⟨by rw [eS2, pd_self], hno, by rw [eS2]; exact hsa 1⟩, by rw [ht9]; exact hP, va_K.moved hW9.alike hK, hD⟩, hS.F ht9⟩) hS.2.2 d_MO_sync_17
set_option maxHeartbeats 4000000 in
set_option maxRecDepth 100000 in
/-- crash -/
theorem c_MO_crash (l : Launch) (dC : Nat → ClassId) (dI : Nat → Nat → Nat) (cI cB cE cL cZ : ClassId) (n : Nat) (am : Nat → Nat) (S : pdS) (f z : Int32) (hv : pd_v 1024 S) (hlw : pd_lo S) (sz : Nat) : CMi l (dC, dI) (pw_ty cI cB cE cL cZ) y_MO_crash w_MO_crash ({ frames := 3, cells := 0, slots := 0, locals := 66 }) [.ref (am 0), .int f, .int z] (mw n am cI cL cZ S) (mw n am cI cL cZ) sz (fun r S2 => (S2 7 3 = 1 ∧ pd_nof f ∧ pd_sa S S2) ∨ (S2 7 3 = 2 ∧ (∃ i, i < 16 ∧ f = nI i ∧ z < 0) ∧ pd_sa S S2) ∨ (S2 7 3 = 0 ∧ ∃ i k, i < 16 ∧ f = nI i ∧ k < 2 ^ 31 ∧ z = nI k ∧ r = nI (S2 4 (2 * i)) ∧ pd_fal S S2 i k)) := by
  refine Met.ofW (cc := b_MO_crash) (maxL := 3) (ret := (some .int)) (by decide) rfl ?_
  intro p e s m args below meth c s₁ B hml hv
  obtain ⟨rfl, hsz, hP, hK, hD0⟩ := hv
  have hx := B.exec
  have hb := B.bytes
  have hret := B.returns
  have hts := atoms_spec (ws := w_MO_crash) B.pre
  have hg : ∀ w ∈ wsG, w.before _ s = true := fun w h => hts w (List.mem_cons_of_mem _ h)
  have hown : s.vm.findClass "PageDriveModel" = some m.cls := findClass_of_methodNamed B.named
  have hlocks := B.notSynchronized
  subst hsz
  have hD := hD0.self (sz := s.heap.size)
  generalize hAe : va_A (mw n am cI cL cZ S) s.heap.size = A at hD ⊢
  have hA : ∀ q : Nat, s.heap.size ≤ q → A q := fun q h => by rw [← hAe]; exact Or.inr h
  have hS : va_S A s.heap s.heap [] := va_S.rf
  have hl := lv_entry ([.ref (am 0), .int f, .int z]) (n := 3) (Nat.le_of_ble_eq_true rfl)
  rw [lg_entry_eq]
  generalize (lg_sl ([.ref (am 0), .int f, .int z]) ++ List.replicate (3 - (lg_sl ([.ref (am 0), .int f, .int z])).length) Slot.unset).toArray = ls at hl ⊢
  have hl : lv_has ls 3 [(0, .ref (am 0)), (1, .int f), (2, .int z)] := hl
  refine lv_aload_n hx hb d_MO_crash_0 rfl (lv_at hl 0 rfl) ?_
  refine lv_iconst (v := nI 0) hx hb d_MO_crash_1 (by decide) ?_
  refine pm_thr hx hb hg hown hK hP hD hS (hg (Cond.fieldLink "PageDriveModel" 37 "PageDriveModel" "thrown" "I") (wG_m10 (List.mem_of_getElem? (i := 23) rfl))) d_MO_crash_2 (fun H locs hP hD hS => ?_)
  generalize eS1 : pd_st S 7 3 0 = S1 at hP hD
  have hsa1 : pd_sa S S1 := by rw [← eS1]; exact pd_sa_73 S 0
  have hsa : ∀ v, pd_sa S (pd_st S1 7 3 v) := fun v => pd_sa_tr hsa1 (pd_sa_73 S1 v)
  have h173 : S1 7 3 = 0 := by rw [← eS1, pd_self]
  have hb1 : ∀ b, b ≠ 7 → S1 b = S b := fun b hb => by rw [← eS1, pd_bk _ hb]
  have hv1 := pd_sa_v hsa1 hv
  refine lv_iload_n hx hb d_MO_crash_5 rfl (lv_at hl 1 rfl) ?_
  refine pw_callip (va_runS (As := [.int f]) (rest := []) ⟨hx, hb, hml, hown, hg⟩ (c_MO_noFile l dC dI cI cB cE cL cZ (mw n am cI cL cZ S1) f H.size) (cwS 1 hg (gi_S (fun _ h => h) (wG_m11 (List.mem_of_getElem? (i := 38) rfl)) (wG_m11 (List.mem_of_getElem? (i := 39) rfl)) (wG_m1 (List.mem_of_getElem? (i := 6) rfl)) (wG_m12 (List.mem_of_getElem? (i := 0) rfl))) rfl rfl rfl (by decide +kernel) ⟨Nat.le_of_ble_eq_true rfl, Nat.le_of_ble_eq_true rfl⟩) (pw_ps hK hP hD [.int f]) rfl rfl hl.1 rfl (lv_room (Nat.le_of_ble_eq_true rfl)) d_MO_crash_6 ⟨Nat.le_of_ble_eq_true rfl, Nat.le_of_ble_eq_true rfl⟩) hD hS hA (fun r2 H locs hr hP hD hS => ?_)
  rcases hr with ⟨i, hi, rfl, rfl⟩ | ⟨hno, rfl⟩
  · refine pq_if_eq (tgt := 18) hx hb (by omega) d_MO_crash_9 (by decide) (fun _ => ?_) (fun h9 => absurd h9 (by omega))
    have hl1 : S1 6 i ≤ S1 4 (2 * i) := by rw [hb1 6 (by decide), hb1 4 (by decide)]; exact hlw i hi
    refine lv_iload_n hx hb d_MO_crash_18 rfl (lv_at hl 2 rfl) ?_
    refine lv_if_ge (tgt := 28) hx hb d_MO_crash_19 (by decide) (fun h1 => ?_) (fun h1 => ?_)
    · obtain ⟨k, hk, rfl⟩ := nI_of (Int32.not_lt.mpr h1)
      refine lv_aload_n hx hb d_MO_crash_28 rfl (lv_at hl 0 rfl) ?_
      refine lv_iload_n hx hb d_MO_crash_29 rfl (lv_at hl 1 rfl) ?_
      refine lv_iload_n hx hb d_MO_crash_30 rfl (lv_at hl 2 rfl) ?_
      refine pw_callv (va_runV (As := [.int (nI i), .int (nI k)]) (rest := []) ⟨hx, hb, hml, hown, hg⟩ (c_MO_breaks l dC dI cI cB cE cL cZ n am S1 i k hi hv1 hl1 hk H.size) (cwV 2 hg (gi_V (fun _ h => h) (wG_m13 (List.mem_of_getElem? (i := 6) rfl)) (wG_m13 (List.mem_of_getElem? (i := 7) rfl)) (wG_m14 (List.mem_of_getElem? (i := 19) rfl)) (wG_m1 (List.mem_of_getElem? (i := 6) rfl)) (wG_m13 (List.mem_of_getElem? (i := 8) rfl))) rfl rfl rfl (by decide +kernel) ⟨Nat.le_of_ble_eq_true rfl, Nat.le_of_ble_eq_true rfl⟩) (pw_pv hK hP hD (va_recv hK hP (ci := 4) (q0 := 0) rfl mw_g0) [.int (nI i), .int (nI k)]) rfl rfl hl.1 rfl (lv_room (Nat.le_of_ble_eq_true rfl)) d_MO_crash_31 ⟨Nat.le_of_ble_eq_true rfl, Nat.le_of_ble_eq_true rfl⟩) hD hS hA (fun S2 H locs hr hP hD hS => ?_)
      refine lv_aload_n hx hb d_MO_crash_34 rfl (lv_at hl 0 rfl) ?_
      refine va_get (C := "PageDriveModel") (T := F_MO) (N := 11) hx hb hg iw_MO hown hK hP (0) mw_g0 rfl 6 (by decide) (hg (Cond.fieldLink "PageDriveModel" 20 "PageDriveModel" "sizes" "[I") (wG_m10 (List.mem_of_getElem? (i := 29) rfl))) (fun _ h9 => h9) rfl d_MO_crash_35 ?_
      refine lv_iconst (v := nI 2) hx hb d_MO_crash_38 (by decide) ?_
      refine lv_iload_n hx hb d_MO_crash_39 rfl (lv_at hl 1 rfl) ?_
      refine pq_imul hx hb d_MO_crash_40 ?_
      refine pq_iald hx hb hK hP 4 0 mw_g4 rfl (by omega) (by omega) d_MO_crash_41 ?_
      exact W.iret (v := (nI (S2 4 (2 * i)))) hx hb hret (fun t9 ht9 hW9 => ⟨⟨_, S2, rfl, Or.inr (Or.inr ⟨by rw [hr.2, h173], i, k, hi, rfl, hk, rfl, rfl, pd_fal_sa hi hsa1 hr.1⟩), by rw [ht9]; exact hP, va_K.moved hW9.alike hK, hD⟩, hS.F ht9⟩) hS.2.2 d_MO_crash_42
    · refine lv_aload_n hx hb d_MO_crash_22 rfl (lv_at hl 0 rfl) ?_
      refine lv_iconst (v := nI 2) hx hb d_MO_crash_23 (by decide) ?_
      refine pw_calli (va_runV (As := [.int (nI 2)]) (rest := []) ⟨hx, hb, hml, hown, hg⟩ (c_MO_fail l dC dI cI cB cE cL cZ n am S1 2 H.size) (cwV 1 hg (gi_V (fun _ h => h) (wG_m11 (List.mem_of_getElem? (i := 30) rfl)) (wG_m11 (List.mem_of_getElem? (i := 31) rfl)) (wG_m14 (List.mem_of_getElem? (i := 11) rfl)) (wG_m1 (List.mem_of_getElem? (i := 6) rfl)) (wG_m11 (List.mem_of_getElem? (i := 32) rfl))) rfl rfl rfl (by decide +kernel) ⟨Nat.le_of_ble_eq_true rfl, Nat.le_of_ble_eq_true rfl⟩) (pw_pv hK hP hD (va_recv hK hP (ci := 4) (q0 := 0) rfl mw_g0) [.int (nI 2)]) rfl rfl hl.1 rfl (lv_room (Nat.le_of_ble_eq_true rfl)) d_MO_crash_24 ⟨Nat.le_of_ble_eq_true rfl, Nat.le_of_ble_eq_true rfl⟩) hD hS hA (fun rf S2 H locs hr hP hD hS => ?_)
      obtain ⟨rfl, eS2⟩ := hr
      exact W.iret (v := (nI 0)) hx hb hret (fun t9 ht9 hW9 => ⟨⟨_, S2, rfl, Or.inr (Or.inl ⟨by rw [eS2, pd_self], ⟨i, hi, rfl, Int32.not_le.mp h1⟩, by rw [eS2]; exact hsa 2⟩), by rw [ht9]; exact hP, va_K.moved hW9.alike hK, hD⟩, hS.F ht9⟩) hS.2.2 d_MO_crash_27
  · refine pq_if_eq (tgt := 18) hx hb (by omega) d_MO_crash_9 (by decide) (fun h9 => absurd h9 (by omega)) (fun _ => ?_)
    refine lv_aload_n hx hb d_MO_crash_12 rfl (lv_at hl 0 rfl) ?_
    refine lv_iconst (v := nI 1) hx hb d_MO_crash_13 (by decide) ?_
    refine pw_calli (va_runV (As := [.int (nI 1)]) (rest := []) ⟨hx, hb, hml, hown, hg⟩ (c_MO_fail l dC dI cI cB cE cL cZ n am S1 1 H.size) (cwV 1 hg (gi_V (fun _ h => h) (wG_m11 (List.mem_of_getElem? (i := 30) rfl)) (wG_m11 (List.mem_of_getElem? (i := 31) rfl)) (wG_m14 (List.mem_of_getElem? (i := 11) rfl)) (wG_m1 (List.mem_of_getElem? (i := 6) rfl)) (wG_m11 (List.mem_of_getElem? (i := 32) rfl))) rfl rfl rfl (by decide +kernel) ⟨Nat.le_of_ble_eq_true rfl, Nat.le_of_ble_eq_true rfl⟩) (pw_pv hK hP hD (va_recv hK hP (ci := 4) (q0 := 0) rfl mw_g0) [.int (nI 1)]) rfl rfl hl.1 rfl (lv_room (Nat.le_of_ble_eq_true rfl)) d_MO_crash_14 ⟨Nat.le_of_ble_eq_true rfl, Nat.le_of_ble_eq_true rfl⟩) hD hS hA (fun rf S2 H locs hr hP hD hS => ?_)
    obtain ⟨rfl, eS2⟩ := hr
    exact W.iret (v := (nI 0)) hx hb hret (fun t9 ht9 hW9 => ⟨⟨_, S2, rfl, Or.inl ⟨by rw [eS2, pd_self], hno, by rw [eS2]; exact hsa 1⟩, by rw [ht9]; exact hP, va_K.moved hW9.alike hK, hD⟩, hS.F ht9⟩) hS.2.2 d_MO_crash_17
end
