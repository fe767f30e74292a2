set_option maxRecDepth 20000 in
theorem m_450 : Jvm.Cond.codeWith ({ cls := "ArithmeticRowsLaw", name := "finish", desc := "(LArithmeticRows;[J)I" } : Jvm.MethodName) method_4_code (3 : Nat) (Option.some Jvm.ClassFile.FieldType.int) [((0 : Nat), (8 : Nat), (11 : Nat), (15 : Nat))] ∈ TT := TT_in (List.mem_of_getElem? (i := 492) rfl) rfl
theorem m_451 : Jvm.Cond.methodLink "ArithmeticRowsLaw" (19 : Nat) ({ cls := "ArithmeticRows", name := "finish", desc := "()I" } : Jvm.MethodName) ∈ TT := TT_in (List.mem_of_getElem? (i := 493) (by decide +kernel)) rfl
theorem m_452 : Jvm.Cond.instanceMethod ({ cls := "ArithmeticRows", name := "finish", desc := "()I" } : Jvm.MethodName) ∈ TT := TT_in (List.mem_of_getElem? (i := 494) (by decide +kernel)) rfl
theorem m_453 : Jvm.Cond.selects "ArithmeticRows" ({ cls := "ArithmeticRows", name := "finish", desc := "()I" } : Jvm.MethodName) ({ cls := "ArithmeticRows", name := "finish", desc := "()I" } : Jvm.MethodName) ∈ TT := TT_in (List.mem_of_getElem? (i := 495) (by decide +kernel)) rfl
set_option maxRecDepth 20000 in
theorem m_454 : Jvm.Cond.code ({ cls := "ArithmeticRows", name := "finish", desc := "()I" } : Jvm.MethodName) prog_1_method_3_code (1 : Nat) (Option.some Jvm.ClassFile.FieldType.int) ∈ TT := TT_in (List.mem_of_getElem? (i := 496) rfl) rfl
theorem m_455 : Jvm.Cond.methodLink "ArithmeticRows" (96 : Nat) ({ cls := "ArithmeticRows$Encoder", name := "endSegment", desc := "()V" } : Jvm.MethodName) ∈ TT := TT_in (List.mem_of_getElem? (i := 497) (by decide +kernel)) rfl
theorem m_456 : Jvm.Cond.methodLink "ArithmeticRowsLaw" (69 : Nat) ({ cls := "ArithmeticRowsLaw", name := "byteAt", desc := "(LArithmeticRows;I[J)I" } : Jvm.MethodName) ∈ TT := TT_in (List.mem_of_getElem? (i := 498) (by decide +kernel)) rfl
theorem m_457 : Jvm.Cond.static ({ cls := "ArithmeticRowsLaw", name := "byteAt", desc := "(LArithmeticRows;I[J)I" } : Jvm.MethodName) ∈ TT := TT_in (List.mem_of_getElem? (i := 499) (by decide +kernel)) rfl
set_option maxRecDepth 20000 in
theorem m_458 : Jvm.Cond.codeWith ({ cls := "ArithmeticRowsLaw", name := "byteAt", desc := "(LArithmeticRows;I[J)I" } : Jvm.MethodName) method_5_code (4 : Nat) (Option.some Jvm.ClassFile.FieldType.int) [((0 : Nat), (9 : Nat), (12 : Nat), (13 : Nat))] ∈ TT := TT_in (List.mem_of_getElem? (i := 500) rfl) rfl
theorem m_459 : Jvm.Cond.methodLink "ArithmeticRowsLaw" (23 : Nat) ({ cls := "ArithmeticRows", name := "byteAt", desc := "(I)I" } : Jvm.MethodName) ∈ TT := TT_in (List.mem_of_getElem? (i := 501) (by decide +kernel)) rfl
theorem m_460 : Jvm.Cond.instanceMethod ({ cls := "ArithmeticRows", name := "byteAt", desc := "(I)I" } : Jvm.MethodName) ∈ TT := TT_in (List.mem_of_getElem? (i := 502) (by decide +kernel)) rfl
theorem m_461 : Jvm.Cond.selects "ArithmeticRows" ({ cls := "ArithmeticRows", name := "byteAt", desc := "(I)I" } : Jvm.MethodName) ({ cls := "ArithmeticRows", name := "byteAt", desc := "(I)I" } : Jvm.MethodName) ∈ TT := TT_in (List.mem_of_getElem? (i := 503) (by decide +kernel)) rfl
set_option maxRecDepth 20000 in
theorem m_462 : Jvm.Cond.code ({ cls := "ArithmeticRows", name := "byteAt", desc := "(I)I" } : Jvm.MethodName) prog_1_method_4_code (2 : Nat) (Option.some Jvm.ClassFile.FieldType.int) ∈ TT := TT_in (List.mem_of_getElem? (i := 504) rfl) rfl
theorem m_463 : Jvm.Cond.stringRef "ArithmeticRows" (104 : Nat) "there is no such byte" ∈ lw_tbl := List.mem_of_getElem? (i := 505) (by decide +kernel)
theorem m_464 : Jvm.Cond.methodLink "ArithmeticRows" (107 : Nat) ({ cls := "ArithmeticRows$Row", name := "byteBefore", desc := "(II)I" } : Jvm.MethodName) ∈ TT := TT_in (List.mem_of_getElem? (i := 506) (by decide +kernel)) rfl
theorem m_465 : Jvm.Cond.instanceMethod ({ cls := "ArithmeticRows$Row", name := "byteBefore", desc := "(II)I" } : Jvm.MethodName) ∈ TT := TT_in (List.mem_of_getElem? (i := 507) (by decide +kernel)) rfl
theorem m_466 : Jvm.Cond.selects "ArithmeticRows$Row" ({ cls := "ArithmeticRows$Row", name := "byteBefore", desc := "(II)I" } : Jvm.MethodName) ({ cls := "ArithmeticRows$Row", name := "byteBefore", desc := "(II)I" } : Jvm.MethodName) ∈ TT := TT_in (List.mem_of_getElem? (i := 508) (by decide +kernel)) rfl
set_option maxRecDepth 20000 in
theorem m_467 : Jvm.Cond.code ({ cls := "ArithmeticRows$Row", name := "byteBefore", desc := "(II)I" } : Jvm.MethodName) prog_4_method_11_code (3 : Nat) (Option.some Jvm.ClassFile.FieldType.int) ∈ TT := TT_in (List.mem_of_getElem? (i := 509) rfl) rfl
theorem m_468 : Jvm.Cond.methodLink "ArithmeticRowsLaw" (73 : Nat) ({ cls := "ArithmeticRowsLaw", name := "feed", desc := "(LArithmeticRows;I[J)I" } : Jvm.MethodName) ∈ TT := TT_in (List.mem_of_getElem? (i := 510) (by decide +kernel)) rfl
theorem m_469 : Jvm.Cond.static ({ cls := "ArithmeticRowsLaw", name := "feed", desc := "(LArithmeticRows;I[J)I" } : Jvm.MethodName) ∈ TT := TT_in (List.mem_of_getElem? (i := 511) (by decide +kernel)) rfl
set_option maxRecDepth 20000 in
theorem m_470 : Jvm.Cond.codeWith ({ cls := "ArithmeticRowsLaw", name := "feed", desc := "(LArithmeticRows;I[J)I" } : Jvm.MethodName) method_6_code (4 : Nat) (Option.some Jvm.ClassFile.FieldType.int) [((0 : Nat), (16 : Nat), (19 : Nat), (15 : Nat)), ((0 : Nat), (16 : Nat), (22 : Nat), (17 : Nat))] ∈ TT := TT_in (List.mem_of_getElem? (i := 512) rfl) rfl
theorem m_471 : Jvm.Cond.methodLink "ArithmeticRowsLaw" (27 : Nat) ({ cls := "ArithmeticRows", name := "feed", desc := "(I)Z" } : Jvm.MethodName) ∈ TT := TT_in (List.mem_of_getElem? (i := 513) (by decide +kernel)) rfl
theorem m_472 : Jvm.Cond.instanceMethod ({ cls := "ArithmeticRows", name := "feed", desc := "(I)Z" } : Jvm.MethodName) ∈ TT := TT_in (List.mem_of_getElem? (i := 514) (by decide +kernel)) rfl
theorem m_473 : Jvm.Cond.selects "ArithmeticRows" ({ cls := "ArithmeticRows", name := "feed", desc := "(I)Z" } : Jvm.MethodName) ({ cls := "ArithmeticRows", name := "feed", desc := "(I)Z" } : Jvm.MethodName) ∈ TT := TT_in (List.mem_of_getElem? (i := 515) (by decide +kernel)) rfl
set_option maxRecDepth 20000 in
theorem m_474 : Jvm.Cond.code ({ cls := "ArithmeticRows", name := "feed", desc := "(I)Z" } : Jvm.MethodName) prog_1_method_5_code (2 : Nat) (Option.some Jvm.ClassFile.FieldType.boolean) ∈ TT := TT_in (List.mem_of_getElem? (i := 516) rfl) rfl
theorem m_475 : Jvm.Cond.methodLink "ArithmeticRows" (110 : Nat) ({ cls := "ArithmeticRows$Decoder", name := "isUntouched", desc := "()Z" } : Jvm.MethodName) ∈ TT := TT_in (List.mem_of_getElem? (i := 517) (by decide +kernel)) rfl
theorem m_476 : Jvm.Cond.instanceMethod ({ cls := "ArithmeticRows$Decoder", name := "isUntouched", desc := "()Z" } : Jvm.MethodName) ∈ TT := TT_in (List.mem_of_getElem? (i := 518) (by decide +kernel)) rfl
theorem m_477 : Jvm.Cond.selects "ArithmeticRows$Decoder" ({ cls := "ArithmeticRows$Decoder", name := "isUntouched", desc := "()Z" } : Jvm.MethodName) ({ cls := "ArithmeticRows$Decoder", name := "isUntouched", desc := "()Z" } : Jvm.MethodName) ∈ TT := TT_in (List.mem_of_getElem? (i := 519) (by decide +kernel)) rfl
set_option maxRecDepth 20000 in
theorem m_478 : Jvm.Cond.code ({ cls := "ArithmeticRows$Decoder", name := "isUntouched", desc := "()Z" } : Jvm.MethodName) prog_2_method_4_code (1 : Nat) (Option.some Jvm.ClassFile.FieldType.boolean) ∈ TT := TT_in (List.mem_of_getElem? (i := 520) rfl) rfl
theorem m_479 : Jvm.Cond.stringRef "ArithmeticRows" (116 : Nat) "bytes come behind finish and before reading" ∈ lw_tbl := List.mem_of_getElem? (i := 521) (by decide +kernel)
theorem m_480 : Jvm.Cond.stringRef "ArithmeticRows" (119 : Nat) "a byte is 0 .. 255" ∈ lw_tbl := List.mem_of_getElem? (i := 522) (by decide +kernel)
theorem m_481 : Jvm.Cond.methodLink "ArithmeticRows" (121 : Nat) ({ cls := "ArithmeticRows$Row", name := "add", desc := "(I)V" } : Jvm.MethodName) ∈ TT := TT_in (List.mem_of_getElem? (i := 523) (by decide +kernel)) rfl
theorem m_482 : Jvm.Cond.methodLink "ArithmeticRowsLaw" (76 : Nat) ({ cls := "ArithmeticRowsLaw", name := "decode", desc := "(LArithmeticRows;I[J)I" } : Jvm.MethodName) ∈ TT := TT_in (List.mem_of_getElem? (i := 524) (by decide +kernel)) rfl
theorem m_483 : Jvm.Cond.static ({ cls := "ArithmeticRowsLaw", name := "decode", desc := "(LArithmeticRows;I[J)I" } : Jvm.MethodName) ∈ TT := TT_in (List.mem_of_getElem? (i := 525) (by decide +kernel)) rfl
set_option maxRecDepth 20000 in
theorem m_484 : Jvm.Cond.codeWith ({ cls := "ArithmeticRowsLaw", name := "decode", desc := "(LArithmeticRows;I[J)I" } : Jvm.MethodName) method_7_code (4 : Nat) (Option.some Jvm.ClassFile.FieldType.int) [((0 : Nat), (9 : Nat), (12 : Nat), (13 : Nat)), ((0 : Nat), (9 : Nat), (15 : Nat), (15 : Nat))] ∈ TT := TT_in (List.mem_of_getElem? (i := 526) rfl) rfl
theorem m_485 : Jvm.Cond.methodLink "ArithmeticRowsLaw" (31 : Nat) ({ cls := "ArithmeticRows", name := "decode", desc := "(I)I" } : Jvm.MethodName) ∈ TT := TT_in (List.mem_of_getElem? (i := 527) (by decide +kernel)) rfl
theorem m_486 : Jvm.Cond.instanceMethod ({ cls := "ArithmeticRows", name := "decode", desc := "(I)I" } : Jvm.MethodName) ∈ TT := TT_in (List.mem_of_getElem? (i := 528) (by decide +kernel)) rfl
theorem m_487 : Jvm.Cond.selects "ArithmeticRows" ({ cls := "ArithmeticRows", name := "decode", desc := "(I)I" } : Jvm.MethodName) ({ cls := "ArithmeticRows", name := "decode", desc := "(I)I" } : Jvm.MethodName) ∈ TT := TT_in (List.mem_of_getElem? (i := 529) (by decide +kernel)) rfl
set_option maxRecDepth 20000 in
theorem m_488 : Jvm.Cond.code ({ cls := "ArithmeticRows", name := "decode", desc := "(I)I" } : Jvm.MethodName) prog_1_method_6_code (2 : Nat) (Option.some Jvm.ClassFile.FieldType.int) ∈ TT := TT_in (List.mem_of_getElem? (i := 530) rfl) rfl
theorem m_489 : Jvm.Cond.methodLink "ArithmeticRows" (124 : Nat) ({ cls := "ArithmeticRows", name := "needDecoding", desc := "()V" } : Jvm.MethodName) ∈ TT := TT_in (List.mem_of_getElem? (i := 531) (by decide +kernel)) rfl
theorem m_490 : Jvm.Cond.privateMethod ({ cls := "ArithmeticRows", name := "needDecoding", desc := "()V" } : Jvm.MethodName) ∈ lw_tbl := List.mem_of_getElem? (i := 532) (by decide +kernel)
theorem m_491 : Jvm.Cond.instanceMethod ({ cls := "ArithmeticRows", name := "needDecoding", desc := "()V" } : Jvm.MethodName) ∈ TT := TT_in (List.mem_of_getElem? (i := 533) (by decide +kernel)) rfl
set_option maxRecDepth 20000 in
theorem m_492 : Jvm.Cond.code ({ cls := "ArithmeticRows", name := "needDecoding", desc := "()V" } : Jvm.MethodName) prog_1_method_18_code (1 : Nat) (Option.none : Option Jvm.ClassFile.FieldType) ∈ TT := TT_in (List.mem_of_getElem? (i := 534) rfl) rfl
theorem m_493 : Jvm.Cond.stringRef "ArithmeticRows" (202 : Nat) "it is encoding" ∈ lw_tbl := List.mem_of_getElem? (i := 535) (by decide +kernel)
theorem m_494 : Jvm.Cond.methodLink "ArithmeticRows" (127 : Nat) ({ cls := "ArithmeticRows$Decoder", name := "read", desc := "([II)I" } : Jvm.MethodName) ∈ TT := TT_in (List.mem_of_getElem? (i := 536) (by decide +kernel)) rfl
theorem m_495 : Jvm.Cond.instanceMethod ({ cls := "ArithmeticRows$Decoder", name := "read", desc := "([II)I" } : Jvm.MethodName) ∈ TT := TT_in (List.mem_of_getElem? (i := 537) (by decide +kernel)) rfl
theorem m_496 : Jvm.Cond.selects "ArithmeticRows$Decoder" ({ cls := "ArithmeticRows$Decoder", name := "read", desc := "([II)I" } : Jvm.MethodName) ({ cls := "ArithmeticRows$Decoder", name := "read", desc := "([II)I" } : Jvm.MethodName) ∈ TT := TT_in (List.mem_of_getElem? (i := 538) (by decide +kernel)) rfl
set_option maxRecDepth 20000 in
theorem m_497 : Jvm.Cond.code ({ cls := "ArithmeticRows$Decoder", name := "read", desc := "([II)I" } : Jvm.MethodName) prog_2_method_6_code (3 : Nat) (Option.some Jvm.ClassFile.FieldType.int) ∈ TT := TT_in (List.mem_of_getElem? (i := 539) rfl) rfl
theorem m_498 : Jvm.Cond.methodLink "ArithmeticRows$Decoder" (58 : Nat) ({ cls := "ArithmeticRows$Decoder", name := "start", desc := "()V" } : Jvm.MethodName) ∈ TT := TT_in (List.mem_of_getElem? (i := 540) (by decide +kernel)) rfl
theorem m_499 : Jvm.Cond.privateMethod ({ cls := "ArithmeticRows$Decoder", name := "start", desc := "()V" } : Jvm.MethodName) ∈ lw_tbl := List.mem_of_getElem? (i := 541) (by decide +kernel)
theorem m_500 : Jvm.Cond.instanceMethod ({ cls := "ArithmeticRows$Decoder", name := "start", desc := "()V" } : Jvm.MethodName) ∈ TT := TT_in (List.mem_of_getElem? (i := 542) (by decide +kernel)) rfl
set_option maxRecDepth 20000 in
theorem m_501 : Jvm.Cond.code ({ cls := "ArithmeticRows$Decoder", name := "start", desc := "()V" } : Jvm.MethodName) prog_2_method_7_code (1 : Nat) (Option.none : Option Jvm.ClassFile.FieldType) ∈ TT := TT_in (List.mem_of_getElem? (i := 543) rfl) rfl
theorem m_502 : Jvm.Cond.methodLink "ArithmeticRows$Decoder" (68 : Nat) ({ cls := "ArithmeticRows$Row", name := "startOf", desc := "(I)I" } : Jvm.MethodName) ∈ TT := TT_in (List.mem_of_getElem? (i := 544) (by decide +kernel)) rfl
theorem m_503 : Jvm.Cond.instanceMethod ({ cls := "ArithmeticRows$Row", name := "startOf", desc := "(I)I" } : Jvm.MethodName) ∈ TT := TT_in (List.mem_of_getElem? (i := 545) (by decide +kernel)) rfl
theorem m_504 : Jvm.Cond.selects "ArithmeticRows$Row" ({ cls := "ArithmeticRows$Row", name := "startOf", desc := "(I)I" } : Jvm.MethodName) ({ cls := "ArithmeticRows$Row", name := "startOf", desc := "(I)I" } : Jvm.MethodName) ∈ TT := TT_in (List.mem_of_getElem? (i := 546) (by decide +kernel)) rfl
set_option maxRecDepth 20000 in
theorem m_505 : Jvm.Cond.code ({ cls := "ArithmeticRows$Row", name := "startOf", desc := "(I)I" } : Jvm.MethodName) prog_4_method_8_code (2 : Nat) (Option.some Jvm.ClassFile.FieldType.int) ∈ TT := TT_in (List.mem_of_getElem? (i := 547) rfl) rfl
theorem m_506 : Jvm.Cond.methodLink "ArithmeticRows$Decoder" (72 : Nat) ({ cls := "ArithmeticRows$Row", name := "endOf", desc := "(I)I" } : Jvm.MethodName) ∈ TT := TT_in (List.mem_of_getElem? (i := 548) (by decide +kernel)) rfl
theorem m_507 : Jvm.Cond.instanceMethod ({ cls := "ArithmeticRows$Row", name := "endOf", desc := "(I)I" } : Jvm.MethodName) ∈ TT := TT_in (List.mem_of_getElem? (i := 549) (by decide +kernel)) rfl
theorem m_508 : Jvm.Cond.selects "ArithmeticRows$Row" ({ cls := "ArithmeticRows$Row", name := "endOf", desc := "(I)I" } : Jvm.MethodName) ({ cls := "ArithmeticRows$Row", name := "endOf", desc := "(I)I" } : Jvm.MethodName) ∈ TT := TT_in (List.mem_of_getElem? (i := 550) (by decide +kernel)) rfl
set_option maxRecDepth 20000 in
theorem m_509 : Jvm.Cond.code ({ cls := "ArithmeticRows$Row", name := "endOf", desc := "(I)I" } : Jvm.MethodName) prog_4_method_9_code (2 : Nat) (Option.some Jvm.ClassFile.FieldType.int) ∈ TT := TT_in (List.mem_of_getElem? (i := 551) rfl) rfl
theorem m_510 : Jvm.Cond.methodLink "ArithmeticRows$Row" (35 : Nat) ({ cls := "ArithmeticRows$Row", name := "startOf", desc := "(I)I" } : Jvm.MethodName) ∈ TT := TT_in (List.mem_of_getElem? (i := 552) (by decide +kernel)) rfl
theorem m_511 : Jvm.Cond.methodLink "ArithmeticRows$Decoder" (75 : Nat) ({ cls := "ArithmeticRows$Row", name := "byteBefore", desc := "(II)I" } : Jvm.MethodName) ∈ TT := TT_in (List.mem_of_getElem? (i := 553) (by decide +kernel)) rfl
theorem m_512 : Jvm.Cond.methodLink "ArithmeticRows$Decoder" (81 : Nat) ({ cls := "ArithmeticRows$Decoder", name := "take", desc := "()V" } : Jvm.MethodName) ∈ TT := TT_in (List.mem_of_getElem? (i := 554) (by decide +kernel)) rfl
theorem m_513 : Jvm.Cond.privateMethod ({ cls := "ArithmeticRows$Decoder", name := "take", desc := "()V" } : Jvm.MethodName) ∈ lw_tbl := List.mem_of_getElem? (i := 555) (by decide +kernel)
theorem m_514 : Jvm.Cond.instanceMethod ({ cls := "ArithmeticRows$Decoder", name := "take", desc := "()V" } : Jvm.MethodName) ∈ TT := TT_in (List.mem_of_getElem? (i := 556) (by decide +kernel)) rfl
set_option maxRecDepth 20000 in
theorem m_515 : Jvm.Cond.code ({ cls := "ArithmeticRows$Decoder", name := "take", desc := "()V" } : Jvm.MethodName) prog_2_method_10_code (3 : Nat) (Option.none : Option Jvm.ClassFile.FieldType) ∈ TT := TT_in (List.mem_of_getElem? (i := 557) rfl) rfl
theorem m_516 : Jvm.Cond.constant "ArithmeticRows$Decoder" (105 : Nat) (65280 : Int32) ∈ TT := TT_in (List.mem_of_getElem? (i := 558) (by decide +kernel)) rfl
theorem m_517 : Jvm.Cond.constant "ArithmeticRows$Decoder" (87 : Nat) (32768 : Int32) ∈ TT := TT_in (List.mem_of_getElem? (i := 559) (by decide +kernel)) rfl
theorem m_518 : Jvm.Cond.methodLink "ArithmeticRows$Decoder" (61 : Nat) ({ cls := "ArithmeticRows$Decoder", name := "readPlain", desc := "()I" } : Jvm.MethodName) ∈ TT := TT_in (List.mem_of_getElem? (i := 560) (by decide +kernel)) rfl
theorem m_519 : Jvm.Cond.privateMethod ({ cls := "ArithmeticRows$Decoder", name := "readPlain", desc := "()I" } : Jvm.MethodName) ∈ lw_tbl := List.mem_of_getElem? (i := 561) (by decide +kernel)
theorem m_520 : Jvm.Cond.instanceMethod ({ cls := "ArithmeticRows$Decoder", name := "readPlain", desc := "()I" } : Jvm.MethodName) ∈ TT := TT_in (List.mem_of_getElem? (i := 562) (by decide +kernel)) rfl
set_option maxRecDepth 20000 in
theorem m_521 : Jvm.Cond.code ({ cls := "ArithmeticRows$Decoder", name := "readPlain", desc := "()I" } : Jvm.MethodName) prog_2_method_11_code (1 : Nat) (Option.some Jvm.ClassFile.FieldType.int) ∈ TT := TT_in (List.mem_of_getElem? (i := 563) rfl) rfl
theorem m_522 : Jvm.Cond.methodLink "ArithmeticRows$Decoder" (64 : Nat) ({ cls := "ArithmeticRows$Decoder", name := "readCoded", desc := "([II)I" } : Jvm.MethodName) ∈ TT := TT_in (List.mem_of_getElem? (i := 564) (by decide +kernel)) rfl
theorem m_523 : Jvm.Cond.privateMethod ({ cls := "ArithmeticRows$Decoder", name := "readCoded", desc := "([II)I" } : Jvm.MethodName) ∈ lw_tbl := List.mem_of_getElem? (i := 565) (by decide +kernel)
theorem m_524 : Jvm.Cond.instanceMethod ({ cls := "ArithmeticRows$Decoder", name := "readCoded", desc := "([II)I" } : Jvm.MethodName) ∈ TT := TT_in (List.mem_of_getElem? (i := 566) (by decide +kernel)) rfl
set_option maxRecDepth 20000 in
theorem m_525 : Jvm.Cond.code ({ cls := "ArithmeticRows$Decoder", name := "readCoded", desc := "([II)I" } : Jvm.MethodName) prog_2_method_8_code (6 : Nat) (Option.some Jvm.ClassFile.FieldType.int) ∈ TT := TT_in (List.mem_of_getElem? (i := 567) rfl) rfl
theorem m_526 : Jvm.Cond.methodLink "ArithmeticRows$Decoder" (91 : Nat) ({ cls := "ArithmeticRows$Table", name := "q", desc := "(I)I" } : Jvm.MethodName) ∈ TT := TT_in (List.mem_of_getElem? (i := 568) (by decide +kernel)) rfl
theorem m_527 : Jvm.Cond.methodLink "ArithmeticRows$Decoder" (96 : Nat) ({ cls := "ArithmeticRows$Table", name := "behindLikely", desc := "(I)I" } : Jvm.MethodName) ∈ TT := TT_in (List.mem_of_getElem? (i := 569) (by decide +kernel)) rfl
theorem m_528 : Jvm.Cond.methodLink "ArithmeticRows$Decoder" (99 : Nat) ({ cls := "ArithmeticRows$Table", name := "behindOther", desc := "(I)I" } : Jvm.MethodName) ∈ TT := TT_in (List.mem_of_getElem? (i := 570) (by decide +kernel)) rfl
theorem m_529 : Jvm.Cond.methodLink "ArithmeticRows$Decoder" (102 : Nat) ({ cls := "ArithmeticRows$Decoder", name := "renew", desc := "()V" } : Jvm.MethodName) ∈ TT := TT_in (List.mem_of_getElem? (i := 571) (by decide +kernel)) rfl
theorem m_530 : Jvm.Cond.privateMethod ({ cls := "ArithmeticRows$Decoder", name := "renew", desc := "()V" } : Jvm.MethodName) ∈ lw_tbl := List.mem_of_getElem? (i := 572) (by decide +kernel)
theorem m_531 : Jvm.Cond.instanceMethod ({ cls := "ArithmeticRows$Decoder", name := "renew", desc := "()V" } : Jvm.MethodName) ∈ TT := TT_in (List.mem_of_getElem? (i := 573) (by decide +kernel)) rfl
set_option maxRecDepth 20000 in
theorem m_532 : Jvm.Cond.code ({ cls := "ArithmeticRows$Decoder", name := "renew", desc := "()V" } : Jvm.MethodName) prog_2_method_9_code (2 : Nat) (Option.none : Option Jvm.ClassFile.FieldType) ∈ TT := TT_in (List.mem_of_getElem? (i := 574) rfl) rfl
theorem m_533 : Jvm.Cond.methodLink "ArithmeticRowsLaw" (79 : Nat) ({ cls := "ArithmeticRowsLaw", name := "state", desc := "(LArithmeticRows;II[J)I" } : Jvm.MethodName) ∈ TT := TT_in (List.mem_of_getElem? (i := 575) (by decide +kernel)) rfl
theorem m_534 : Jvm.Cond.static ({ cls := "ArithmeticRowsLaw", name := "state", desc := "(LArithmeticRows;II[J)I" } : Jvm.MethodName) ∈ TT := TT_in (List.mem_of_getElem? (i := 576) (by decide +kernel)) rfl
set_option maxRecDepth 20000 in
theorem m_535 : Jvm.Cond.codeWith ({ cls := "ArithmeticRowsLaw", name := "state", desc := "(LArithmeticRows;II[J)I" } : Jvm.MethodName) method_8_code (5 : Nat) (Option.some Jvm.ClassFile.FieldType.int) [((0 : Nat), (10 : Nat), (13 : Nat), (13 : Nat))] ∈ TT := TT_in (List.mem_of_getElem? (i := 577) rfl) rfl
theorem m_536 : Jvm.Cond.methodLink "ArithmeticRowsLaw" (34 : Nat) ({ cls := "ArithmeticRows", name := "state", desc := "(II)I" } : Jvm.MethodName) ∈ TT := TT_in (List.mem_of_getElem? (i := 578) (by decide +kernel)) rfl
theorem m_537 : Jvm.Cond.instanceMethod ({ cls := "ArithmeticRows", name := "state", desc := "(II)I" } : Jvm.MethodName) ∈ TT := TT_in (List.mem_of_getElem? (i := 579) (by decide +kernel)) rfl
theorem m_538 : Jvm.Cond.selects "ArithmeticRows" ({ cls := "ArithmeticRows", name := "state", desc := "(II)I" } : Jvm.MethodName) ({ cls := "ArithmeticRows", name := "state", desc := "(II)I" } : Jvm.MethodName) ∈ TT := TT_in (List.mem_of_getElem? (i := 580) (by decide +kernel)) rfl
set_option maxRecDepth 20000 in
theorem m_539 : Jvm.Cond.code ({ cls := "ArithmeticRows", name := "state", desc := "(II)I" } : Jvm.MethodName) prog_1_method_7_code (3 : Nat) (Option.some Jvm.ClassFile.FieldType.int) ∈ TT := TT_in (List.mem_of_getElem? (i := 581) rfl) rfl
theorem m_540 : Jvm.Cond.stringRef "ArithmeticRows" (131 : Nat) "a side is 0 or 1" ∈ lw_tbl := List.mem_of_getElem? (i := 582) (by decide +kernel)
theorem m_541 : Jvm.Cond.methodLink "ArithmeticRows" (133 : Nat) ({ cls := "ArithmeticRows", name := "at", desc := "([II)I" } : Jvm.MethodName) ∈ TT := TT_in (List.mem_of_getElem? (i := 583) (by decide +kernel)) rfl
theorem m_542 : Jvm.Cond.methodLink "ArithmeticRowsLaw" (82 : Nat) ({ cls := "ArithmeticRowsLaw", name := "whole", desc := "(LArithmeticRows;II[J)I" } : Jvm.MethodName) ∈ TT := TT_in (List.mem_of_getElem? (i := 584) (by decide +kernel)) rfl
theorem m_543 : Jvm.Cond.static ({ cls := "ArithmeticRowsLaw", name := "whole", desc := "(LArithmeticRows;II[J)I" } : Jvm.MethodName) ∈ TT := TT_in (List.mem_of_getElem? (i := 585) (by decide +kernel)) rfl
set_option maxRecDepth 20000 in
theorem m_544 : Jvm.Cond.codeWith ({ cls := "ArithmeticRowsLaw", name := "whole", desc := "(LArithmeticRows;II[J)I" } : Jvm.MethodName) method_9_code (5 : Nat) (Option.some Jvm.ClassFile.FieldType.int) [((0 : Nat), (10 : Nat), (13 : Nat), (13 : Nat)), ((0 : Nat), (10 : Nat), (17 : Nat), (15 : Nat))] ∈ TT := TT_in (List.mem_of_getElem? (i := 586) rfl) rfl
theorem m_545 : Jvm.Cond.methodLink "ArithmeticRowsLaw" (37 : Nat) ({ cls := "ArithmeticRows", name := "whole", desc := "(II)I" } : Jvm.MethodName) ∈ TT := TT_in (List.mem_of_getElem? (i := 587) (by decide +kernel)) rfl
theorem m_546 : Jvm.Cond.instanceMethod ({ cls := "ArithmeticRows", name := "whole", desc := "(II)I" } : Jvm.MethodName) ∈ TT := TT_in (List.mem_of_getElem? (i := 588) (by decide +kernel)) rfl
theorem m_547 : Jvm.Cond.selects "ArithmeticRows" ({ cls := "ArithmeticRows", name := "whole", desc := "(II)I" } : Jvm.MethodName) ({ cls := "ArithmeticRows", name := "whole", desc := "(II)I" } : Jvm.MethodName) ∈ TT := TT_in (List.mem_of_getElem? (i := 589) (by decide +kernel)) rfl
set_option maxRecDepth 20000 in
theorem m_548 : Jvm.Cond.code ({ cls := "ArithmeticRows", name := "whole", desc := "(II)I" } : Jvm.MethodName) prog_1_method_8_code (7 : Nat) (Option.some Jvm.ClassFile.FieldType.int) ∈ TT := TT_in (List.mem_of_getElem? (i := 590) rfl) rfl
theorem m_549 : Jvm.Cond.methodLink "ArithmeticRows" (136 : Nat) ({ cls := "ArithmeticRows", name := "needSet", desc := "(I)V" } : Jvm.MethodName) ∈ TT := TT_in (List.mem_of_getElem? (i := 591) (by decide +kernel)) rfl
theorem m_550 : Jvm.Cond.privateMethod ({ cls := "ArithmeticRows", name := "needSet", desc := "(I)V" } : Jvm.MethodName) ∈ lw_tbl := List.mem_of_getElem? (i := 592) (by decide +kernel)
theorem m_551 : Jvm.Cond.instanceMethod ({ cls := "ArithmeticRows", name := "needSet", desc := "(I)V" } : Jvm.MethodName) ∈ TT := TT_in (List.mem_of_getElem? (i := 593) (by decide +kernel)) rfl
set_option maxRecDepth 20000 in
theorem m_552 : Jvm.Cond.code ({ cls := "ArithmeticRows", name := "needSet", desc := "(I)V" } : Jvm.MethodName) prog_1_method_16_code (2 : Nat) (Option.none : Option Jvm.ClassFile.FieldType) ∈ TT := TT_in (List.mem_of_getElem? (i := 594) rfl) rfl
theorem m_553 : Jvm.Cond.stringRef "ArithmeticRows" (198 : Nat) "there is no such set" ∈ lw_tbl := List.mem_of_getElem? (i := 595) (by decide +kernel)
theorem m_554 : Jvm.Cond.constant "ArithmeticRows" (139 : Nat) (-2147483648 : Int32) ∈ TT := TT_in (List.mem_of_getElem? (i := 596) (by decide +kernel)) rfl
theorem m_555 : Jvm.Cond.methodLink "ArithmeticRows" (140 : Nat) ({ cls := "java/lang/Math", name := "abs", desc := "(I)I" } : Jvm.MethodName) ∈ TT := TT_in (List.mem_of_getElem? (i := 597) (by decide +kernel)) rfl
theorem m_556 : Jvm.Cond.static ({ cls := "java/lang/Math", name := "abs", desc := "(I)I" } : Jvm.MethodName) ∈ TT := TT_in (List.mem_of_getElem? (i := 598) (by decide +kernel)) rfl
set_option maxRecDepth 20000 in
theorem m_557 : Jvm.Cond.code ({ cls := "java/lang/Math", name := "abs", desc := "(I)I" } : Jvm.MethodName) prog_13_method_59_code (1 : Nat) (Option.some Jvm.ClassFile.FieldType.int) ∈ TT := TT_in (List.mem_of_getElem? (i := 599) rfl) rfl
theorem m_558 : Jvm.Cond.methodLink "ArithmeticRows" (144 : Nat) ({ cls := "ArithmeticRows", name := "kindOf", desc := "(I)I" } : Jvm.MethodName) ∈ TT := TT_in (List.mem_of_getElem? (i := 600) (by decide +kernel)) rfl
theorem m_559 : Jvm.Cond.static ({ cls := "ArithmeticRows", name := "kindOf", desc := "(I)I" } : Jvm.MethodName) ∈ TT := TT_in (List.mem_of_getElem? (i := 601) (by decide +kernel)) rfl
set_option maxRecDepth 20000 in
theorem m_560 : Jvm.Cond.code ({ cls := "ArithmeticRows", name := "kindOf", desc := "(I)I" } : Jvm.MethodName) prog_1_method_20_code (2 : Nat) (Option.some Jvm.ClassFile.FieldType.int) ∈ TT := TT_in (List.mem_of_getElem? (i := 602) rfl) rfl
theorem m_561 : Jvm.Cond.fieldLink "ArithmeticRows" (160 : Nat) "ArithmeticRows" "LEAST_SIZE" "[I" ∈ TT := TT_in (List.mem_of_getElem? (i := 603) (by decide +kernel)) rfl
theorem m_562 : Jvm.Cond.laysStatic "ArithmeticRows" "LEAST_SIZE" "[I" ∈ lw_tbl := List.mem_of_getElem? (i := 604) (by decide +kernel)
theorem m_563 : Jvm.Cond.fieldLink "ArithmeticRows" (147 : Nat) "ArithmeticRows" "PREFIX_LENGTH" "[I" ∈ TT := TT_in (List.mem_of_getElem? (i := 605) (by decide +kernel)) rfl
theorem m_564 : Jvm.Cond.laysStatic "ArithmeticRows" "PREFIX_LENGTH" "[I" ∈ lw_tbl := List.mem_of_getElem? (i := 606) (by decide +kernel)
theorem m_565 : Jvm.Cond.fieldLink "ArithmeticRows" (150 : Nat) "ArithmeticRows" "SIZE_LENGTH" "[I" ∈ TT := TT_in (List.mem_of_getElem? (i := 607) (by decide +kernel)) rfl
theorem m_566 : Jvm.Cond.laysStatic "ArithmeticRows" "SIZE_LENGTH" "[I" ∈ lw_tbl := List.mem_of_getElem? (i := 608) (by decide +kernel)
theorem m_567 : Jvm.Cond.methodLink "ArithmeticRows" (153 : Nat) ({ cls := "ArithmeticRows", name := "putBits", desc := "(III)V" } : Jvm.MethodName) ∈ TT := TT_in (List.mem_of_getElem? (i := 609) (by decide +kernel)) rfl
theorem m_568 : Jvm.Cond.privateMethod ({ cls := "ArithmeticRows", name := "putBits", desc := "(III)V" } : Jvm.MethodName) ∈ lw_tbl := List.mem_of_getElem? (i := 610) (by decide +kernel)
theorem m_569 : Jvm.Cond.instanceMethod ({ cls := "ArithmeticRows", name := "putBits", desc := "(III)V" } : Jvm.MethodName) ∈ TT := TT_in (List.mem_of_getElem? (i := 611) (by decide +kernel)) rfl
set_option maxRecDepth 20000 in
theorem m_570 : Jvm.Cond.code ({ cls := "ArithmeticRows", name := "putBits", desc := "(III)V" } : Jvm.MethodName) prog_1_method_21_code (6 : Nat) (Option.none : Option Jvm.ClassFile.FieldType) ∈ TT := TT_in (List.mem_of_getElem? (i := 612) rfl) rfl
theorem m_571 : Jvm.Cond.methodLink "ArithmeticRows" (207 : Nat) ({ cls := "ArithmeticRows", name := "longerPath", desc := "(II)I" } : Jvm.MethodName) ∈ TT := TT_in (List.mem_of_getElem? (i := 613) (by decide +kernel)) rfl
theorem m_572 : Jvm.Cond.static ({ cls := "ArithmeticRows", name := "longerPath", desc := "(II)I" } : Jvm.MethodName) ∈ TT := TT_in (List.mem_of_getElem? (i := 614) (by decide +kernel)) rfl
set_option maxRecDepth 20000 in
theorem m_573 : Jvm.Cond.code ({ cls := "ArithmeticRows", name := "longerPath", desc := "(II)I" } : Jvm.MethodName) prog_1_method_23_code (3 : Nat) (Option.some Jvm.ClassFile.FieldType.int) ∈ TT := TT_in (List.mem_of_getElem? (i := 615) rfl) rfl
theorem m_574 : Jvm.Cond.fieldLink "ArithmeticRows" (157 : Nat) "ArithmeticRows" "PREFIX" "[I" ∈ TT := TT_in (List.mem_of_getElem? (i := 616) (by decide +kernel)) rfl
theorem m_575 : Jvm.Cond.laysStatic "ArithmeticRows" "PREFIX" "[I" ∈ lw_tbl := List.mem_of_getElem? (i := 617) (by decide +kernel)
theorem m_576 : Jvm.Cond.methodLink "ArithmeticRowsLaw" (85 : Nat) ({ cls := "ArithmeticRowsLaw", name := "readWhole", desc := "(LArithmeticRows;I[J)I" } : Jvm.MethodName) ∈ TT := TT_in (List.mem_of_getElem? (i := 618) (by decide +kernel)) rfl
theorem m_577 : Jvm.Cond.static ({ cls := "ArithmeticRowsLaw", name := "readWhole", desc := "(LArithmeticRows;I[J)I" } : Jvm.MethodName) ∈ TT := TT_in (List.mem_of_getElem? (i := 619) (by decide +kernel)) rfl
set_option maxRecDepth 20000 in
theorem m_578 : Jvm.Cond.codeWith ({ cls := "ArithmeticRowsLaw", name := "readWhole", desc := "(LArithmeticRows;I[J)I" } : Jvm.MethodName) method_10_code (4 : Nat) (Option.some Jvm.ClassFile.FieldType.int) [((0 : Nat), (9 : Nat), (12 : Nat), (13 : Nat)), ((0 : Nat), (9 : Nat), (15 : Nat), (15 : Nat))] ∈ TT := TT_in (List.mem_of_getElem? (i := 620) rfl) rfl
theorem m_579 : Jvm.Cond.methodLink "ArithmeticRowsLaw" (40 : Nat) ({ cls := "ArithmeticRows", name := "readWhole", desc := "(I)I" } : Jvm.MethodName) ∈ TT := TT_in (List.mem_of_getElem? (i := 621) (by decide +kernel)) rfl
theorem m_580 : Jvm.Cond.instanceMethod ({ cls := "ArithmeticRows", name := "readWhole", desc := "(I)I" } : Jvm.MethodName) ∈ TT := TT_in (List.mem_of_getElem? (i := 622) (by decide +kernel)) rfl
theorem m_581 : Jvm.Cond.selects "ArithmeticRows" ({ cls := "ArithmeticRows", name := "readWhole", desc := "(I)I" } : Jvm.MethodName) ({ cls := "ArithmeticRows", name := "readWhole", desc := "(I)I" } : Jvm.MethodName) ∈ TT := TT_in (List.mem_of_getElem? (i := 623) (by decide +kernel)) rfl
set_option maxRecDepth 20000 in
theorem m_582 : Jvm.Cond.code ({ cls := "ArithmeticRows", name := "readWhole", desc := "(I)I" } : Jvm.MethodName) prog_1_method_9_code (5 : Nat) (Option.some Jvm.ClassFile.FieldType.int) ∈ TT := TT_in (List.mem_of_getElem? (i := 624) rfl) rfl
theorem m_583 : Jvm.Cond.methodLink "ArithmeticRows" (163 : Nat) ({ cls := "ArithmeticRows", name := "readBits", desc := "(II)I" } : Jvm.MethodName) ∈ TT := TT_in (List.mem_of_getElem? (i := 625) (by decide +kernel)) rfl
theorem m_584 : Jvm.Cond.privateMethod ({ cls := "ArithmeticRows", name := "readBits", desc := "(II)I" } : Jvm.MethodName) ∈ lw_tbl := List.mem_of_getElem? (i := 626) (by decide +kernel)
theorem m_585 : Jvm.Cond.instanceMethod ({ cls := "ArithmeticRows", name := "readBits", desc := "(II)I" } : Jvm.MethodName) ∈ TT := TT_in (List.mem_of_getElem? (i := 627) (by decide +kernel)) rfl
set_option maxRecDepth 20000 in
theorem m_586 : Jvm.Cond.code ({ cls := "ArithmeticRows", name := "readBits", desc := "(II)I" } : Jvm.MethodName) prog_1_method_22_code (6 : Nat) (Option.some Jvm.ClassFile.FieldType.int) ∈ TT := TT_in (List.mem_of_getElem? (i := 628) rfl) rfl
theorem m_587 : Jvm.Cond.methodLink "ArithmeticRowsLaw" (88 : Nat) ({ cls := "ArithmeticRowsLaw", name := "save", desc := "(LArithmeticRows;[J)I" } : Jvm.MethodName) ∈ TT := TT_in (List.mem_of_getElem? (i := 629) (by decide +kernel)) rfl
theorem m_588 : Jvm.Cond.static ({ cls := "ArithmeticRowsLaw", name := "save", desc := "(LArithmeticRows;[J)I" } : Jvm.MethodName) ∈ TT := TT_in (List.mem_of_getElem? (i := 630) (by decide +kernel)) rfl
set_option maxRecDepth 20000 in
theorem m_589 : Jvm.Cond.codeWith ({ cls := "ArithmeticRowsLaw", name := "save", desc := "(LArithmeticRows;[J)I" } : Jvm.MethodName) method_11_code (3 : Nat) (Option.some Jvm.ClassFile.FieldType.int) [((0 : Nat), (8 : Nat), (11 : Nat), (15 : Nat))] ∈ TT := TT_in (List.mem_of_getElem? (i := 631) rfl) rfl
theorem m_590 : Jvm.Cond.methodLink "ArithmeticRowsLaw" (43 : Nat) ({ cls := "ArithmeticRows", name := "save", desc := "()I" } : Jvm.MethodName) ∈ TT := TT_in (List.mem_of_getElem? (i := 632) (by decide +kernel)) rfl
theorem m_591 : Jvm.Cond.instanceMethod ({ cls := "ArithmeticRows", name := "save", desc := "()I" } : Jvm.MethodName) ∈ TT := TT_in (List.mem_of_getElem? (i := 633) (by decide +kernel)) rfl
theorem m_592 : Jvm.Cond.selects "ArithmeticRows" ({ cls := "ArithmeticRows", name := "save", desc := "()I" } : Jvm.MethodName) ({ cls := "ArithmeticRows", name := "save", desc := "()I" } : Jvm.MethodName) ∈ TT := TT_in (List.mem_of_getElem? (i := 634) (by decide +kernel)) rfl
set_option maxRecDepth 20000 in
theorem m_593 : Jvm.Cond.code ({ cls := "ArithmeticRows", name := "save", desc := "()I" } : Jvm.MethodName) prog_1_method_10_code (1 : Nat) (Option.some Jvm.ClassFile.FieldType.int) ∈ TT := TT_in (List.mem_of_getElem? (i := 635) rfl) rfl
theorem m_594 : Jvm.Cond.stringRef "ArithmeticRows" (166 : Nat) "no more than 6 are kept" ∈ lw_tbl := List.mem_of_getElem? (i := 636) (by decide +kernel)
theorem m_595 : Jvm.Cond.classLink "ArithmeticRowsLaw" (55 : Nat) "ArithmeticRowsModel" ∈ TT := TT_in (List.mem_of_getElem? (i := 637) (by decide +kernel)) rfl
theorem m_596 : Jvm.Cond.instantiable "ArithmeticRowsModel" (29 : Nat) ∈ TT := TT_in (List.mem_of_getElem? (i := 638) (by decide +kernel)) rfl
theorem m_597 : Jvm.Cond.methodLink "ArithmeticRowsLaw" (57 : Nat) ({ cls := "ArithmeticRowsModel", name := "<init>", desc := "(I)V" } : Jvm.MethodName) ∈ TT := TT_in (List.mem_of_getElem? (i := 639) (by decide +kernel)) rfl
theorem m_598 : Jvm.Cond.instanceMethod ({ cls := "ArithmeticRowsModel", name := "<init>", desc := "(I)V" } : Jvm.MethodName) ∈ TT := TT_in (List.mem_of_getElem? (i := 640) (by decide +kernel)) rfl
set_option maxRecDepth 20000 in
theorem m_599 : Jvm.Cond.code ({ cls := "ArithmeticRowsModel", name := "<init>", desc := "(I)V" } : Jvm.MethodName) prog_8_method_1_code (2 : Nat) (Option.none : Option Jvm.ClassFile.FieldType) ∈ TT := TT_in (List.mem_of_getElem? (i := 641) rfl) rfl
theorem m_600 : Jvm.Cond.methodLink "ArithmeticRowsModel" (1 : Nat) ({ cls := "java/lang/Object", name := "<init>", desc := "()V" } : Jvm.MethodName) ∈ TT := TT_in (List.mem_of_getElem? (i := 642) (by decide +kernel)) rfl
theorem m_601 : Jvm.Cond.constant "ArithmeticRowsModel" (19 : Nat) (139264 : Int32) ∈ TT := TT_in (List.mem_of_getElem? (i := 643) (by decide +kernel)) rfl
theorem m_602 : Jvm.Cond.constant "ArithmeticRowsModel" (23 : Nat) (393216 : Int32) ∈ TT := TT_in (List.mem_of_getElem? (i := 644) (by decide +kernel)) rfl
theorem m_603 : Jvm.Cond.constant "ArithmeticRowsModel" (34 : Nat) (120000 : Int32) ∈ TT := TT_in (List.mem_of_getElem? (i := 645) (by decide +kernel)) rfl
theorem m_604 : Jvm.Cond.constant "ArithmeticRowsModel" (38 : Nat) (65536 : Int32) ∈ TT := TT_in (List.mem_of_getElem? (i := 646) (by decide +kernel)) rfl
theorem m_605 : Jvm.Cond.methodLink "ArithmeticRowsModel" (43 : Nat) ({ cls := "ArithmeticRowsModel", name := "beginSegment", desc := "(Z)V" } : Jvm.MethodName) ∈ TT := TT_in (List.mem_of_getElem? (i := 647) (by decide +kernel)) rfl
theorem m_606 : Jvm.Cond.privateMethod ({ cls := "ArithmeticRowsModel", name := "beginSegment", desc := "(Z)V" } : Jvm.MethodName) ∈ lw_tbl := List.mem_of_getElem? (i := 648) (by decide +kernel)
theorem m_607 : Jvm.Cond.instanceMethod ({ cls := "ArithmeticRowsModel", name := "beginSegment", desc := "(Z)V" } : Jvm.MethodName) ∈ TT := TT_in (List.mem_of_getElem? (i := 649) (by decide +kernel)) rfl
set_option maxRecDepth 20000 in
theorem m_608 : Jvm.Cond.code ({ cls := "ArithmeticRowsModel", name := "beginSegment", desc := "(Z)V" } : Jvm.MethodName) prog_8_method_9_code (2 : Nat) (Option.none : Option Jvm.ClassFile.FieldType) ∈ TT := TT_in (List.mem_of_getElem? (i := 650) rfl) rfl
theorem m_609 : Jvm.Cond.constant "ArithmeticRowsModel" (65 : Nat) (32768 : Int32) ∈ TT := TT_in (List.mem_of_getElem? (i := 651) (by decide +kernel)) rfl
theorem m_610 : Jvm.Cond.fieldLink "ArithmeticRowsModel" (7 : Nat) "ArithmeticRowsModel" "sizes" "[I" ∈ TT := TT_in (List.mem_of_getElem? (i := 652) (by decide +kernel)) rfl
theorem m_611 : Jvm.Cond.fieldLink "ArithmeticRowsModel" (13 : Nat) "ArithmeticRowsModel" "ups" "[I" ∈ TT := TT_in (List.mem_of_getElem? (i := 653) (by decide +kernel)) rfl
theorem m_612 : Jvm.Cond.fieldLink "ArithmeticRowsModel" (16 : Nat) "ArithmeticRowsModel" "downs" "[I" ∈ TT := TT_in (List.mem_of_getElem? (i := 654) (by decide +kernel)) rfl
theorem m_613 : Jvm.Cond.fieldLink "ArithmeticRowsModel" (47 : Nat) "ArithmeticRowsModel" "code" "I" ∈ TT := TT_in (List.mem_of_getElem? (i := 655) (by decide +kernel)) rfl
theorem m_614 : Jvm.Cond.fieldLink "ArithmeticRowsModel" (39 : Nat) "ArithmeticRowsModel" "many" "I" ∈ TT := TT_in (List.mem_of_getElem? (i := 656) (by decide +kernel)) rfl
theorem m_615 : Jvm.Cond.fieldLink "ArithmeticRowsModel" (20 : Nat) "ArithmeticRowsModel" "contexts" "[I" ∈ TT := TT_in (List.mem_of_getElem? (i := 657) (by decide +kernel)) rfl
theorem m_616 : Jvm.Cond.fieldLink "ArithmeticRowsModel" (205 : Nat) "ArithmeticRowsModel" "savedMany" "I" ∈ TT := TT_in (List.mem_of_getElem? (i := 658) (by decide +kernel)) rfl
theorem m_617 : Jvm.Cond.fieldLink "ArithmeticRowsModel" (24 : Nat) "ArithmeticRowsModel" "saved" "[I" ∈ TT := TT_in (List.mem_of_getElem? (i := 659) (by decide +kernel)) rfl
theorem m_618 : Jvm.Cond.fieldLink "ArithmeticRowsModel" (59 : Nat) "ArithmeticRowsModel" "segments" "I" ∈ TT := TT_in (List.mem_of_getElem? (i := 660) (by decide +kernel)) rfl
theorem m_619 : Jvm.Cond.fieldLink "ArithmeticRowsModel" (27 : Nat) "ArithmeticRowsModel" "starts" "[I" ∈ TT := TT_in (List.mem_of_getElem? (i := 661) (by decide +kernel)) rfl
theorem m_620 : Jvm.Cond.fieldLink "ArithmeticRowsModel" (30 : Nat) "ArithmeticRowsModel" "raws" "[Z" ∈ TT := TT_in (List.mem_of_getElem? (i := 662) (by decide +kernel)) rfl
theorem m_621 : Jvm.Cond.fieldLink "ArithmeticRowsModel" (62 : Nat) "ArithmeticRowsModel" "size" "I" ∈ TT := TT_in (List.mem_of_getElem? (i := 663) (by decide +kernel)) rfl
theorem m_622 : Jvm.Cond.fieldLink "ArithmeticRowsModel" (35 : Nat) "ArithmeticRowsModel" "bytes" "[I" ∈ TT := TT_in (List.mem_of_getElem? (i := 664) (by decide +kernel)) rfl
theorem m_623 : Jvm.Cond.fieldLink "ArithmeticRowsModel" (50 : Nat) "ArithmeticRowsModel" "decoding" "Z" ∈ TT := TT_in (List.mem_of_getElem? (i := 665) (by decide +kernel)) rfl
theorem m_624 : Jvm.Cond.fieldLink "ArithmeticRowsModel" (66 : Nat) "ArithmeticRowsModel" "span" "I" ∈ TT := TT_in (List.mem_of_getElem? (i := 666) (by decide +kernel)) rfl
theorem m_625 : Jvm.Cond.fieldLink "ArithmeticRowsModel" (69 : Nat) "ArithmeticRowsModel" "low" "I" ∈ TT := TT_in (List.mem_of_getElem? (i := 667) (by decide +kernel)) rfl
theorem m_626 : Jvm.Cond.fieldLink "ArithmeticRowsModel" (72 : Nat) "ArithmeticRowsModel" "due" "I" ∈ TT := TT_in (List.mem_of_getElem? (i := 668) (by decide +kernel)) rfl
theorem m_627 : Jvm.Cond.fieldLink "ArithmeticRowsModel" (75 : Nat) "ArithmeticRowsModel" "part" "I" ∈ TT := TT_in (List.mem_of_getElem? (i := 669) (by decide +kernel)) rfl
theorem m_628 : Jvm.Cond.fieldLink "ArithmeticRowsModel" (78 : Nat) "ArithmeticRowsModel" "room" "I" ∈ TT := TT_in (List.mem_of_getElem? (i := 670) (by decide +kernel)) rfl
theorem m_629 : Jvm.Cond.fieldLink "ArithmeticRowsModel" (111 : Nat) "ArithmeticRowsModel" "at" "I" ∈ TT := TT_in (List.mem_of_getElem? (i := 671) (by decide +kernel)) rfl
theorem m_630 : Jvm.Cond.fieldLink "ArithmeticRowsModel" (114 : Nat) "ArithmeticRowsModel" "taken" "I" ∈ TT := TT_in (List.mem_of_getElem? (i := 672) (by decide +kernel)) rfl
theorem m_631 : Jvm.Cond.fieldLink "ArithmeticRowsModel" (148 : Nat) "ArithmeticRowsModel" "dspan" "I" ∈ TT := TT_in (List.mem_of_getElem? (i := 673) (by decide +kernel)) rfl
theorem m_632 : Jvm.Cond.fieldLink "ArithmeticRowsModel" (126 : Nat) "ArithmeticRowsModel" "over" "J" ∈ TT := TT_in (List.mem_of_getElem? (i := 674) (by decide +kernel)) rfl
theorem m_633 : Jvm.Cond.fieldLink "ArithmeticRowsModel" (134 : Nat) "ArithmeticRowsModel" "ddue" "I" ∈ TT := TT_in (List.mem_of_getElem? (i := 675) (by decide +kernel)) rfl
theorem m_634 : Jvm.Cond.fieldLink "ArithmeticRowsModel" (120 : Nat) "ArithmeticRowsModel" "latest" "I" ∈ TT := TT_in (List.mem_of_getElem? (i := 676) (by decide +kernel)) rfl
theorem m_635 : Jvm.Cond.fieldLink "ArithmeticRowsModel" (117 : Nat) "ArithmeticRowsModel" "left" "I" ∈ TT := TT_in (List.mem_of_getElem? (i := 677) (by decide +kernel)) rfl
theorem m_636 : Jvm.Cond.fieldLink "ArithmeticRowsModel" (172 : Nat) "ArithmeticRowsModel" "moved" "Z" ∈ TT := TT_in (List.mem_of_getElem? (i := 678) (by decide +kernel)) rfl
theorem m_637 : Jvm.Cond.fieldLink "ArithmeticRowsModel" (181 : Nat) "ArithmeticRowsModel" "prefix" "I" ∈ TT := TT_in (List.mem_of_getElem? (i := 679) (by decide +kernel)) rfl
theorem m_638 : Jvm.Cond.fieldLink "ArithmeticRowsModel" (188 : Nat) "ArithmeticRowsModel" "bitsPassed" "I" ∈ TT := TT_in (List.mem_of_getElem? (i := 680) (by decide +kernel)) rfl
theorem m_639 : Jvm.Cond.laysFinal "ArithmeticRowsModel" "ArithmeticRowsModel" "sizes" "[I" ∈ TT := TT_in (List.mem_of_getElem? (i := 681) (by decide +kernel)) rfl
theorem m_640 : Jvm.Cond.soleField "ArithmeticRowsModel" "sizes" ∈ TT := TT_in (List.mem_of_getElem? (i := 682) (by decide +kernel)) rfl
theorem m_641 : Jvm.Cond.laysFinal "ArithmeticRowsModel" "ArithmeticRowsModel" "ups" "[I" ∈ TT := TT_in (List.mem_of_getElem? (i := 683) (by decide +kernel)) rfl
theorem m_642 : Jvm.Cond.soleField "ArithmeticRowsModel" "ups" ∈ TT := TT_in (List.mem_of_getElem? (i := 684) (by decide +kernel)) rfl
theorem m_643 : Jvm.Cond.laysFinal "ArithmeticRowsModel" "ArithmeticRowsModel" "downs" "[I" ∈ TT := TT_in (List.mem_of_getElem? (i := 685) (by decide +kernel)) rfl
theorem m_644 : Jvm.Cond.soleField "ArithmeticRowsModel" "downs" ∈ TT := TT_in (List.mem_of_getElem? (i := 686) (by decide +kernel)) rfl
theorem m_645 : Jvm.Cond.lays "ArithmeticRowsModel" "ArithmeticRowsModel" "code" "I" ∈ TT := TT_in (List.mem_of_getElem? (i := 687) (by decide +kernel)) rfl
theorem m_646 : Jvm.Cond.soleField "ArithmeticRowsModel" "code" ∈ TT := TT_in (List.mem_of_getElem? (i := 688) (by decide +kernel)) rfl
theorem m_647 : Jvm.Cond.laysFinal "ArithmeticRowsModel" "ArithmeticRowsModel" "many" "I" ∈ TT := TT_in (List.mem_of_getElem? (i := 689) (by decide +kernel)) rfl
theorem m_648 : Jvm.Cond.soleField "ArithmeticRowsModel" "many" ∈ TT := TT_in (List.mem_of_getElem? (i := 690) (by decide +kernel)) rfl
theorem m_649 : Jvm.Cond.laysFinal "ArithmeticRowsModel" "ArithmeticRowsModel" "contexts" "[I" ∈ TT := TT_in (List.mem_of_getElem? (i := 691) (by decide +kernel)) rfl
theorem m_650 : Jvm.Cond.soleField "ArithmeticRowsModel" "contexts" ∈ TT := TT_in (List.mem_of_getElem? (i := 692) (by decide +kernel)) rfl
theorem m_651 : Jvm.Cond.lays "ArithmeticRowsModel" "ArithmeticRowsModel" "savedMany" "I" ∈ TT := TT_in (List.mem_of_getElem? (i := 693) (by decide +kernel)) rfl
theorem m_652 : Jvm.Cond.soleField "ArithmeticRowsModel" "savedMany" ∈ TT := TT_in (List.mem_of_getElem? (i := 694) (by decide +kernel)) rfl
theorem m_653 : Jvm.Cond.laysFinal "ArithmeticRowsModel" "ArithmeticRowsModel" "saved" "[I" ∈ TT := TT_in (List.mem_of_getElem? (i := 695) (by decide +kernel)) rfl
theorem m_654 : Jvm.Cond.soleField "ArithmeticRowsModel" "saved" ∈ TT := TT_in (List.mem_of_getElem? (i := 696) (by decide +kernel)) rfl
theorem m_655 : Jvm.Cond.lays "ArithmeticRowsModel" "ArithmeticRowsModel" "segments" "I" ∈ TT := TT_in (List.mem_of_getElem? (i := 697) (by decide +kernel)) rfl
theorem m_656 : Jvm.Cond.soleField "ArithmeticRowsModel" "segments" ∈ TT := TT_in (List.mem_of_getElem? (i := 698) (by decide +kernel)) rfl
theorem m_657 : Jvm.Cond.laysFinal "ArithmeticRowsModel" "ArithmeticRowsModel" "starts" "[I" ∈ TT := TT_in (List.mem_of_getElem? (i := 699) (by decide +kernel)) rfl
theorem m_658 : Jvm.Cond.soleField "ArithmeticRowsModel" "starts" ∈ TT := TT_in (List.mem_of_getElem? (i := 700) (by decide +kernel)) rfl
theorem m_659 : Jvm.Cond.laysFinal "ArithmeticRowsModel" "ArithmeticRowsModel" "raws" "[Z" ∈ TT := TT_in (List.mem_of_getElem? (i := 701) (by decide +kernel)) rfl
theorem m_660 : Jvm.Cond.soleField "ArithmeticRowsModel" "raws" ∈ TT := TT_in (List.mem_of_getElem? (i := 702) (by decide +kernel)) rfl
theorem m_661 : Jvm.Cond.lays "ArithmeticRowsModel" "ArithmeticRowsModel" "size" "I" ∈ TT := TT_in (List.mem_of_getElem? (i := 703) (by decide +kernel)) rfl
theorem m_662 : Jvm.Cond.soleField "ArithmeticRowsModel" "size" ∈ TT := TT_in (List.mem_of_getElem? (i := 704) (by decide +kernel)) rfl
theorem m_663 : Jvm.Cond.laysFinal "ArithmeticRowsModel" "ArithmeticRowsModel" "bytes" "[I" ∈ TT := TT_in (List.mem_of_getElem? (i := 705) (by decide +kernel)) rfl
theorem m_664 : Jvm.Cond.soleField "ArithmeticRowsModel" "bytes" ∈ TT := TT_in (List.mem_of_getElem? (i := 706) (by decide +kernel)) rfl
theorem m_665 : Jvm.Cond.lays "ArithmeticRowsModel" "ArithmeticRowsModel" "decoding" "Z" ∈ TT := TT_in (List.mem_of_getElem? (i := 707) (by decide +kernel)) rfl
theorem m_666 : Jvm.Cond.soleField "ArithmeticRowsModel" "decoding" ∈ TT := TT_in (List.mem_of_getElem? (i := 708) (by decide +kernel)) rfl
theorem m_667 : Jvm.Cond.lays "ArithmeticRowsModel" "ArithmeticRowsModel" "span" "I" ∈ TT := TT_in (List.mem_of_getElem? (i := 709) (by decide +kernel)) rfl
theorem m_668 : Jvm.Cond.soleField "ArithmeticRowsModel" "span" ∈ TT := TT_in (List.mem_of_getElem? (i := 710) (by decide +kernel)) rfl
theorem m_669 : Jvm.Cond.lays "ArithmeticRowsModel" "ArithmeticRowsModel" "low" "I" ∈ TT := TT_in (List.mem_of_getElem? (i := 711) (by decide +kernel)) rfl
theorem m_670 : Jvm.Cond.soleField "ArithmeticRowsModel" "low" ∈ TT := TT_in (List.mem_of_getElem? (i := 712) (by decide +kernel)) rfl
theorem m_671 : Jvm.Cond.lays "ArithmeticRowsModel" "ArithmeticRowsModel" "due" "I" ∈ TT := TT_in (List.mem_of_getElem? (i := 713) (by decide +kernel)) rfl
theorem m_672 : Jvm.Cond.soleField "ArithmeticRowsModel" "due" ∈ TT := TT_in (List.mem_of_getElem? (i := 714) (by decide +kernel)) rfl
theorem m_673 : Jvm.Cond.lays "ArithmeticRowsModel" "ArithmeticRowsModel" "part" "I" ∈ TT := TT_in (List.mem_of_getElem? (i := 715) (by decide +kernel)) rfl
theorem m_674 : Jvm.Cond.soleField "ArithmeticRowsModel" "part" ∈ TT := TT_in (List.mem_of_getElem? (i := 716) (by decide +kernel)) rfl
theorem m_675 : Jvm.Cond.lays "ArithmeticRowsModel" "ArithmeticRowsModel" "room" "I" ∈ TT := TT_in (List.mem_of_getElem? (i := 717) (by decide +kernel)) rfl
theorem m_676 : Jvm.Cond.soleField "ArithmeticRowsModel" "room" ∈ TT := TT_in (List.mem_of_getElem? (i := 718) (by decide +kernel)) rfl
theorem m_677 : Jvm.Cond.lays "ArithmeticRowsModel" "ArithmeticRowsModel" "at" "I" ∈ TT := TT_in (List.mem_of_getElem? (i := 719) (by decide +kernel)) rfl
theorem m_678 : Jvm.Cond.soleField "ArithmeticRowsModel" "at" ∈ TT := TT_in (List.mem_of_getElem? (i := 720) (by decide +kernel)) rfl
theorem m_679 : Jvm.Cond.lays "ArithmeticRowsModel" "ArithmeticRowsModel" "taken" "I" ∈ TT := TT_in (List.mem_of_getElem? (i := 721) (by decide +kernel)) rfl
theorem m_680 : Jvm.Cond.soleField "ArithmeticRowsModel" "taken" ∈ TT := TT_in (List.mem_of_getElem? (i := 722) (by decide +kernel)) rfl
theorem m_681 : Jvm.Cond.lays "ArithmeticRowsModel" "ArithmeticRowsModel" "dspan" "I" ∈ TT := TT_in (List.mem_of_getElem? (i := 723) (by decide +kernel)) rfl
theorem m_682 : Jvm.Cond.soleField "ArithmeticRowsModel" "dspan" ∈ TT := TT_in (List.mem_of_getElem? (i := 724) (by decide +kernel)) rfl
theorem m_683 : Jvm.Cond.lays "ArithmeticRowsModel" "ArithmeticRowsModel" "over" "J" ∈ TT := TT_in (List.mem_of_getElem? (i := 725) (by decide +kernel)) rfl
theorem m_684 : Jvm.Cond.soleField "ArithmeticRowsModel" "over" ∈ TT := TT_in (List.mem_of_getElem? (i := 726) (by decide +kernel)) rfl
theorem m_685 : Jvm.Cond.lays "ArithmeticRowsModel" "ArithmeticRowsModel" "ddue" "I" ∈ TT := TT_in (List.mem_of_getElem? (i := 727) (by decide +kernel)) rfl
theorem m_686 : Jvm.Cond.soleField "ArithmeticRowsModel" "ddue" ∈ TT := TT_in (List.mem_of_getElem? (i := 728) (by decide +kernel)) rfl
theorem m_687 : Jvm.Cond.lays "ArithmeticRowsModel" "ArithmeticRowsModel" "latest" "I" ∈ TT := TT_in (List.mem_of_getElem? (i := 729) (by decide +kernel)) rfl
theorem m_688 : Jvm.Cond.soleField "ArithmeticRowsModel" "latest" ∈ TT := TT_in (List.mem_of_getElem? (i := 730) (by decide +kernel)) rfl
theorem m_689 : Jvm.Cond.lays "ArithmeticRowsModel" "ArithmeticRowsModel" "left" "I" ∈ TT := TT_in (List.mem_of_getElem? (i := 731) (by decide +kernel)) rfl
theorem m_690 : Jvm.Cond.soleField "ArithmeticRowsModel" "left" ∈ TT := TT_in (List.mem_of_getElem? (i := 732) (by decide +kernel)) rfl
theorem m_691 : Jvm.Cond.lays "ArithmeticRowsModel" "ArithmeticRowsModel" "moved" "Z" ∈ TT := TT_in (List.mem_of_getElem? (i := 733) (by decide +kernel)) rfl
theorem m_692 : Jvm.Cond.soleField "ArithmeticRowsModel" "moved" ∈ TT := TT_in (List.mem_of_getElem? (i := 734) (by decide +kernel)) rfl
theorem m_693 : Jvm.Cond.lays "ArithmeticRowsModel" "ArithmeticRowsModel" "prefix" "I" ∈ TT := TT_in (List.mem_of_getElem? (i := 735) (by decide +kernel)) rfl
theorem m_694 : Jvm.Cond.soleField "ArithmeticRowsModel" "prefix" ∈ TT := TT_in (List.mem_of_getElem? (i := 736) (by decide +kernel)) rfl
theorem m_695 : Jvm.Cond.lays "ArithmeticRowsModel" "ArithmeticRowsModel" "bitsPassed" "I" ∈ TT := TT_in (List.mem_of_getElem? (i := 737) (by decide +kernel)) rfl
theorem m_696 : Jvm.Cond.soleField "ArithmeticRowsModel" "bitsPassed" ∈ TT := TT_in (List.mem_of_getElem? (i := 738) (by decide +kernel)) rfl
theorem m_697 : Jvm.Cond.superclass "ArithmeticRowsModel" "java/lang/Object" ∈ TT := TT_in (List.mem_of_getElem? (i := 739) (by decide +kernel)) rfl
theorem m_698 : Jvm.Cond.methodLink "ArithmeticRowsLaw" (62 : Nat) ({ cls := "ArithmeticRowsModel", name := "thrown", desc := "()I" } : Jvm.MethodName) ∈ TT := TT_in (List.mem_of_getElem? (i := 740) (by decide +kernel)) rfl
theorem m_699 : Jvm.Cond.instanceMethod ({ cls := "ArithmeticRowsModel", name := "thrown", desc := "()I" } : Jvm.MethodName) ∈ TT := TT_in (List.mem_of_getElem? (i := 741) (by decide +kernel)) rfl
theorem m_700 : Jvm.Cond.selects "ArithmeticRowsModel" ({ cls := "ArithmeticRowsModel", name := "thrown", desc := "()I" } : Jvm.MethodName) ({ cls := "ArithmeticRowsModel", name := "thrown", desc := "()I" } : Jvm.MethodName) ∈ TT := TT_in (List.mem_of_getElem? (i := 742) (by decide +kernel)) rfl
set_option maxRecDepth 20000 in
theorem m_701 : Jvm.Cond.code ({ cls := "ArithmeticRowsModel", name := "thrown", desc := "()I" } : Jvm.MethodName) prog_8_method_2_code (1 : Nat) (Option.some Jvm.ClassFile.FieldType.int) ∈ TT := TT_in (List.mem_of_getElem? (i := 743) rfl) rfl
theorem m_702 : Jvm.Cond.methodLink "ArithmeticRowsLaw" (61 : Nat) ({ cls := "ArithmeticRowsModel", name := "encode", desc := "(II)I" } : Jvm.MethodName) ∈ TT := TT_in (List.mem_of_getElem? (i := 744) (by decide +kernel)) rfl
theorem m_703 : Jvm.Cond.instanceMethod ({ cls := "ArithmeticRowsModel", name := "encode", desc := "(II)I" } : Jvm.MethodName) ∈ TT := TT_in (List.mem_of_getElem? (i := 745) (by decide +kernel)) rfl
theorem m_704 : Jvm.Cond.selects "ArithmeticRowsModel" ({ cls := "ArithmeticRowsModel", name := "encode", desc := "(II)I" } : Jvm.MethodName) ({ cls := "ArithmeticRowsModel", name := "encode", desc := "(II)I" } : Jvm.MethodName) ∈ TT := TT_in (List.mem_of_getElem? (i := 746) (by decide +kernel)) rfl
set_option maxRecDepth 20000 in
theorem m_705 : Jvm.Cond.code ({ cls := "ArithmeticRowsModel", name := "encode", desc := "(II)I" } : Jvm.MethodName) prog_8_method_23_code (3 : Nat) (Option.some Jvm.ClassFile.FieldType.int) ∈ TT := TT_in (List.mem_of_getElem? (i := 747) rfl) rfl
theorem m_706 : Jvm.Cond.methodLink "ArithmeticRowsModel" (159 : Nat) ({ cls := "ArithmeticRowsModel", name := "in", desc := "(III)Z" } : Jvm.MethodName) ∈ TT := TT_in (List.mem_of_getElem? (i := 748) (by decide +kernel)) rfl
theorem m_707 : Jvm.Cond.static ({ cls := "ArithmeticRowsModel", name := "in", desc := "(III)Z" } : Jvm.MethodName) ∈ TT := TT_in (List.mem_of_getElem? (i := 749) (by decide +kernel)) rfl
set_option maxRecDepth 20000 in
theorem m_708 : Jvm.Cond.code ({ cls := "ArithmeticRowsModel", name := "in", desc := "(III)Z" } : Jvm.MethodName) prog_8_method_3_code (3 : Nat) (Option.some Jvm.ClassFile.FieldType.boolean) ∈ TT := TT_in (List.mem_of_getElem? (i := 750) rfl) rfl
theorem m_709 : Jvm.Cond.methodLink "ArithmeticRowsModel" (163 : Nat) ({ cls := "ArithmeticRowsModel", name := "placeOf", desc := "(I)I" } : Jvm.MethodName) ∈ TT := TT_in (List.mem_of_getElem? (i := 751) (by decide +kernel)) rfl
theorem m_710 : Jvm.Cond.privateMethod ({ cls := "ArithmeticRowsModel", name := "placeOf", desc := "(I)I" } : Jvm.MethodName) ∈ lw_tbl := List.mem_of_getElem? (i := 752) (by decide +kernel)
theorem m_711 : Jvm.Cond.instanceMethod ({ cls := "ArithmeticRowsModel", name := "placeOf", desc := "(I)I" } : Jvm.MethodName) ∈ TT := TT_in (List.mem_of_getElem? (i := 753) (by decide +kernel)) rfl
set_option maxRecDepth 20000 in
theorem m_712 : Jvm.Cond.code ({ cls := "ArithmeticRowsModel", name := "placeOf", desc := "(I)I" } : Jvm.MethodName) prog_8_method_5_code (2 : Nat) (Option.some Jvm.ClassFile.FieldType.int) ∈ TT := TT_in (List.mem_of_getElem? (i := 754) rfl) rfl
theorem m_713 : Jvm.Cond.methodLink "ArithmeticRowsModel" (54 : Nat) ({ cls := "ArithmeticRowsModel", name := "side", desc := "()I" } : Jvm.MethodName) ∈ TT := TT_in (List.mem_of_getElem? (i := 755) (by decide +kernel)) rfl
theorem m_714 : Jvm.Cond.privateMethod ({ cls := "ArithmeticRowsModel", name := "side", desc := "()I" } : Jvm.MethodName) ∈ lw_tbl := List.mem_of_getElem? (i := 756) (by decide +kernel)
theorem m_715 : Jvm.Cond.instanceMethod ({ cls := "ArithmeticRowsModel", name := "side", desc := "()I" } : Jvm.MethodName) ∈ TT := TT_in (List.mem_of_getElem? (i := 757) (by decide +kernel)) rfl
set_option maxRecDepth 20000 in
theorem m_716 : Jvm.Cond.code ({ cls := "ArithmeticRowsModel", name := "side", desc := "()I" } : Jvm.MethodName) prog_8_method_4_code (1 : Nat) (Option.some Jvm.ClassFile.FieldType.int) ∈ TT := TT_in (List.mem_of_getElem? (i := 758) rfl) rfl
theorem m_717 : Jvm.Cond.methodLink "ArithmeticRowsModel" (166 : Nat) ({ cls := "ArithmeticRowsModel", name := "write", desc := "(II)V" } : Jvm.MethodName) ∈ TT := TT_in (List.mem_of_getElem? (i := 759) (by decide +kernel)) rfl
theorem m_718 : Jvm.Cond.privateMethod ({ cls := "ArithmeticRowsModel", name := "write", desc := "(II)V" } : Jvm.MethodName) ∈ lw_tbl := List.mem_of_getElem? (i := 760) (by decide +kernel)
theorem m_719 : Jvm.Cond.instanceMethod ({ cls := "ArithmeticRowsModel", name := "write", desc := "(II)V" } : Jvm.MethodName) ∈ TT := TT_in (List.mem_of_getElem? (i := 761) (by decide +kernel)) rfl
set_option maxRecDepth 20000 in
theorem m_720 : Jvm.Cond.code ({ cls := "ArithmeticRowsModel", name := "write", desc := "(II)V" } : Jvm.MethodName) prog_8_method_15_code (3 : Nat) (Option.none : Option Jvm.ClassFile.FieldType) ∈ TT := TT_in (List.mem_of_getElem? (i := 762) rfl) rfl
theorem m_721 : Jvm.Cond.methodLink "ArithmeticRowsModel" (103 : Nat) ({ cls := "ArithmeticRowsModel", name := "writeRaw", desc := "(I)V" } : Jvm.MethodName) ∈ TT := TT_in (List.mem_of_getElem? (i := 763) (by decide +kernel)) rfl
theorem m_722 : Jvm.Cond.privateMethod ({ cls := "ArithmeticRowsModel", name := "writeRaw", desc := "(I)V" } : Jvm.MethodName) ∈ lw_tbl := List.mem_of_getElem? (i := 764) (by decide +kernel)
theorem m_723 : Jvm.Cond.instanceMethod ({ cls := "ArithmeticRowsModel", name := "writeRaw", desc := "(I)V" } : Jvm.MethodName) ∈ TT := TT_in (List.mem_of_getElem? (i := 765) (by decide +kernel)) rfl
set_option maxRecDepth 20000 in
theorem m_724 : Jvm.Cond.code ({ cls := "ArithmeticRowsModel", name := "writeRaw", desc := "(I)V" } : Jvm.MethodName) prog_8_method_14_code (2 : Nat) (Option.none : Option Jvm.ClassFile.FieldType) ∈ TT := TT_in (List.mem_of_getElem? (i := 766) rfl) rfl
theorem m_725 : Jvm.Cond.methodLink "ArithmeticRowsModel" (88 : Nat) ({ cls := "ArithmeticRowsModel", name := "put", desc := "(I)V" } : Jvm.MethodName) ∈ TT := TT_in (List.mem_of_getElem? (i := 767) (by decide +kernel)) rfl
theorem m_726 : Jvm.Cond.privateMethod ({ cls := "ArithmeticRowsModel", name := "put", desc := "(I)V" } : Jvm.MethodName) ∈ lw_tbl := List.mem_of_getElem? (i := 768) (by decide +kernel)
theorem m_727 : Jvm.Cond.instanceMethod ({ cls := "ArithmeticRowsModel", name := "put", desc := "(I)V" } : Jvm.MethodName) ∈ TT := TT_in (List.mem_of_getElem? (i := 769) (by decide +kernel)) rfl
set_option maxRecDepth 20000 in
theorem m_728 : Jvm.Cond.code ({ cls := "ArithmeticRowsModel", name := "put", desc := "(I)V" } : Jvm.MethodName) prog_8_method_10_code (2 : Nat) (Option.none : Option Jvm.ClassFile.FieldType) ∈ TT := TT_in (List.mem_of_getElem? (i := 770) rfl) rfl
theorem m_729 : Jvm.Cond.methodLink "ArithmeticRowsModel" (81 : Nat) ({ cls := "ArithmeticRowsModel", name := "isFull", desc := "()Z" } : Jvm.MethodName) ∈ TT := TT_in (List.mem_of_getElem? (i := 771) (by decide +kernel)) rfl
theorem m_730 : Jvm.Cond.privateMethod ({ cls := "ArithmeticRowsModel", name := "isFull", desc := "()Z" } : Jvm.MethodName) ∈ lw_tbl := List.mem_of_getElem? (i := 772) (by decide +kernel)
theorem m_731 : Jvm.Cond.instanceMethod ({ cls := "ArithmeticRowsModel", name := "isFull", desc := "()Z" } : Jvm.MethodName) ∈ TT := TT_in (List.mem_of_getElem? (i := 773) (by decide +kernel)) rfl
set_option maxRecDepth 20000 in
theorem m_732 : Jvm.Cond.code ({ cls := "ArithmeticRowsModel", name := "isFull", desc := "()Z" } : Jvm.MethodName) prog_8_method_11_code (1 : Nat) (Option.some Jvm.ClassFile.FieldType.boolean) ∈ TT := TT_in (List.mem_of_getElem? (i := 774) rfl) rfl
theorem m_733 : Jvm.Cond.methodLink "ArithmeticRowsModel" (106 : Nat) ({ cls := "ArithmeticRowsModel", name := "writeCoded", desc := "(II)V" } : Jvm.MethodName) ∈ TT := TT_in (List.mem_of_getElem? (i := 775) (by decide +kernel)) rfl
theorem m_734 : Jvm.Cond.privateMethod ({ cls := "ArithmeticRowsModel", name := "writeCoded", desc := "(II)V" } : Jvm.MethodName) ∈ lw_tbl := List.mem_of_getElem? (i := 776) (by decide +kernel)
theorem m_735 : Jvm.Cond.instanceMethod ({ cls := "ArithmeticRowsModel", name := "writeCoded", desc := "(II)V" } : Jvm.MethodName) ∈ TT := TT_in (List.mem_of_getElem? (i := 777) (by decide +kernel)) rfl
set_option maxRecDepth 20000 in
theorem m_736 : Jvm.Cond.code ({ cls := "ArithmeticRowsModel", name := "writeCoded", desc := "(II)V" } : Jvm.MethodName) prog_8_method_13_code (6 : Nat) (Option.none : Option Jvm.ClassFile.FieldType) ∈ TT := TT_in (List.mem_of_getElem? (i := 778) rfl) rfl
theorem m_737 : Jvm.Cond.methodLink "ArithmeticRowsModel" (92 : Nat) ({ cls := "ArithmeticRowsModel", name := "sizeOf", desc := "(I)I" } : Jvm.MethodName) ∈ TT := TT_in (List.mem_of_getElem? (i := 779) (by decide +kernel)) rfl
theorem m_738 : Jvm.Cond.privateMethod ({ cls := "ArithmeticRowsModel", name := "sizeOf", desc := "(I)I" } : Jvm.MethodName) ∈ lw_tbl := List.mem_of_getElem? (i := 780) (by decide +kernel)
theorem m_739 : Jvm.Cond.instanceMethod ({ cls := "ArithmeticRowsModel", name := "sizeOf", desc := "(I)I" } : Jvm.MethodName) ∈ TT := TT_in (List.mem_of_getElem? (i := 781) (by decide +kernel)) rfl
set_option maxRecDepth 20000 in
theorem m_740 : Jvm.Cond.code ({ cls := "ArithmeticRowsModel", name := "sizeOf", desc := "(I)I" } : Jvm.MethodName) prog_8_method_7_code (2 : Nat) (Option.some Jvm.ClassFile.FieldType.int) ∈ TT := TT_in (List.mem_of_getElem? (i := 782) rfl) rfl
theorem m_741 : Jvm.Cond.methodLink "ArithmeticRowsModel" (96 : Nat) ({ cls := "ArithmeticRowsModel", name := "learn", desc := "(IZ)V" } : Jvm.MethodName) ∈ TT := TT_in (List.mem_of_getElem? (i := 783) (by decide +kernel)) rfl
theorem m_742 : Jvm.Cond.privateMethod ({ cls := "ArithmeticRowsModel", name := "learn", desc := "(IZ)V" } : Jvm.MethodName) ∈ lw_tbl := List.mem_of_getElem? (i := 784) (by decide +kernel)
theorem m_743 : Jvm.Cond.instanceMethod ({ cls := "ArithmeticRowsModel", name := "learn", desc := "(IZ)V" } : Jvm.MethodName) ∈ TT := TT_in (List.mem_of_getElem? (i := 785) (by decide +kernel)) rfl
set_option maxRecDepth 20000 in
theorem m_744 : Jvm.Cond.code ({ cls := "ArithmeticRowsModel", name := "learn", desc := "(IZ)V" } : Jvm.MethodName) prog_8_method_8_code (6 : Nat) (Option.none : Option Jvm.ClassFile.FieldType) ∈ TT := TT_in (List.mem_of_getElem? (i := 786) rfl) rfl
theorem m_745 : Jvm.Cond.methodLink "ArithmeticRowsModel" (100 : Nat) ({ cls := "ArithmeticRowsModel", name := "putOut", desc := "()V" } : Jvm.MethodName) ∈ TT := TT_in (List.mem_of_getElem? (i := 787) (by decide +kernel)) rfl
theorem m_746 : Jvm.Cond.privateMethod ({ cls := "ArithmeticRowsModel", name := "putOut", desc := "()V" } : Jvm.MethodName) ∈ lw_tbl := List.mem_of_getElem? (i := 788) (by decide +kernel)
theorem m_747 : Jvm.Cond.instanceMethod ({ cls := "ArithmeticRowsModel", name := "putOut", desc := "()V" } : Jvm.MethodName) ∈ TT := TT_in (List.mem_of_getElem? (i := 789) (by decide +kernel)) rfl
set_option maxRecDepth 20000 in
theorem m_748 : Jvm.Cond.code ({ cls := "ArithmeticRowsModel", name := "putOut", desc := "()V" } : Jvm.MethodName) prog_8_method_12_code (3 : Nat) (Option.none : Option Jvm.ClassFile.FieldType) ∈ TT := TT_in (List.mem_of_getElem? (i := 790) rfl) rfl
theorem m_749 : Jvm.Cond.constant "ArithmeticRowsModel" (85 : Nat) (134217728 : Int32) ∈ TT := TT_in (List.mem_of_getElem? (i := 791) (by decide +kernel)) rfl
theorem m_750 : Jvm.Cond.constant "ArithmeticRowsModel" (86 : Nat) (1048576 : Int32) ∈ TT := TT_in (List.mem_of_getElem? (i := 792) (by decide +kernel)) rfl
theorem m_751 : Jvm.Cond.constant "ArithmeticRowsModel" (87 : Nat) (524288 : Int32) ∈ TT := TT_in (List.mem_of_getElem? (i := 793) (by decide +kernel)) rfl
theorem m_752 : Jvm.Cond.methodLink "ArithmeticRowsLaw" (68 : Nat) ({ cls := "ArithmeticRowsModel", name := "finish", desc := "()I" } : Jvm.MethodName) ∈ TT := TT_in (List.mem_of_getElem? (i := 794) (by decide +kernel)) rfl
theorem m_753 : Jvm.Cond.instanceMethod ({ cls := "ArithmeticRowsModel", name := "finish", desc := "()I" } : Jvm.MethodName) ∈ TT := TT_in (List.mem_of_getElem? (i := 795) (by decide +kernel)) rfl
theorem m_754 : Jvm.Cond.selects "ArithmeticRowsModel" ({ cls := "ArithmeticRowsModel", name := "finish", desc := "()I" } : Jvm.MethodName) ({ cls := "ArithmeticRowsModel", name := "finish", desc := "()I" } : Jvm.MethodName) ∈ TT := TT_in (List.mem_of_getElem? (i := 796) (by decide +kernel)) rfl
set_option maxRecDepth 20000 in
theorem m_755 : Jvm.Cond.code ({ cls := "ArithmeticRowsModel", name := "finish", desc := "()I" } : Jvm.MethodName) prog_8_method_24_code (1 : Nat) (Option.some Jvm.ClassFile.FieldType.int) ∈ TT := TT_in (List.mem_of_getElem? (i := 797) rfl) rfl
theorem m_756 : Jvm.Cond.methodLink "ArithmeticRowsModel" (169 : Nat) ({ cls := "ArithmeticRowsModel", name := "endSegment", desc := "()V" } : Jvm.MethodName) ∈ TT := TT_in (List.mem_of_getElem? (i := 798) (by decide +kernel)) rfl
theorem m_757 : Jvm.Cond.privateMethod ({ cls := "ArithmeticRowsModel", name := "endSegment", desc := "()V" } : Jvm.MethodName) ∈ lw_tbl := List.mem_of_getElem? (i := 799) (by decide +kernel)
theorem m_758 : Jvm.Cond.instanceMethod ({ cls := "ArithmeticRowsModel", name := "endSegment", desc := "()V" } : Jvm.MethodName) ∈ TT := TT_in (List.mem_of_getElem? (i := 800) (by decide +kernel)) rfl
set_option maxRecDepth 20000 in
theorem m_759 : Jvm.Cond.code ({ cls := "ArithmeticRowsModel", name := "endSegment", desc := "()V" } : Jvm.MethodName) prog_8_method_16_code (3 : Nat) (Option.none : Option Jvm.ClassFile.FieldType) ∈ TT := TT_in (List.mem_of_getElem? (i := 801) rfl) rfl
theorem m_760 : Jvm.Cond.constant "ArithmeticRowsModel" (110 : Nat) (65535 : Int32) ∈ TT := TT_in (List.mem_of_getElem? (i := 802) (by decide +kernel)) rfl
theorem m_761 : Jvm.Cond.methodLink "ArithmeticRowsModel" (175 : Nat) ({ cls := "ArithmeticRowsModel", name := "beginReading", desc := "(I)V" } : Jvm.MethodName) ∈ TT := TT_in (List.mem_of_getElem? (i := 803) (by decide +kernel)) rfl
theorem m_762 : Jvm.Cond.privateMethod ({ cls := "ArithmeticRowsModel", name := "beginReading", desc := "(I)V" } : Jvm.MethodName) ∈ lw_tbl := List.mem_of_getElem? (i := 804) (by decide +kernel)
theorem m_763 : Jvm.Cond.instanceMethod ({ cls := "ArithmeticRowsModel", name := "beginReading", desc := "(I)V" } : Jvm.MethodName) ∈ TT := TT_in (List.mem_of_getElem? (i := 805) (by decide +kernel)) rfl
set_option maxRecDepth 20000 in
theorem m_764 : Jvm.Cond.code ({ cls := "ArithmeticRowsModel", name := "beginReading", desc := "(I)V" } : Jvm.MethodName) prog_8_method_18_code (2 : Nat) (Option.none : Option Jvm.ClassFile.FieldType) ∈ TT := TT_in (List.mem_of_getElem? (i := 806) rfl) rfl
theorem m_765 : Jvm.Cond.methodLink "ArithmeticRowsLaw" (72 : Nat) ({ cls := "ArithmeticRowsModel", name := "byteAt", desc := "(I)I" } : Jvm.MethodName) ∈ TT := TT_in (List.mem_of_getElem? (i := 807) (by decide +kernel)) rfl
theorem m_766 : Jvm.Cond.instanceMethod ({ cls := "ArithmeticRowsModel", name := "byteAt", desc := "(I)I" } : Jvm.MethodName) ∈ TT := TT_in (List.mem_of_getElem? (i := 808) (by decide +kernel)) rfl
theorem m_767 : Jvm.Cond.selects "ArithmeticRowsModel" ({ cls := "ArithmeticRowsModel", name := "byteAt", desc := "(I)I" } : Jvm.MethodName) ({ cls := "ArithmeticRowsModel", name := "byteAt", desc := "(I)I" } : Jvm.MethodName) ∈ TT := TT_in (List.mem_of_getElem? (i := 809) (by decide +kernel)) rfl
set_option maxRecDepth 20000 in
theorem m_768 : Jvm.Cond.code ({ cls := "ArithmeticRowsModel", name := "byteAt", desc := "(I)I" } : Jvm.MethodName) prog_8_method_25_code (2 : Nat) (Option.some Jvm.ClassFile.FieldType.int) ∈ TT := TT_in (List.mem_of_getElem? (i := 810) rfl) rfl
theorem m_769 : Jvm.Cond.methodLink "ArithmeticRowsLaw" (75 : Nat) ({ cls := "ArithmeticRowsModel", name := "feed", desc := "(I)Z" } : Jvm.MethodName) ∈ TT := TT_in (List.mem_of_getElem? (i := 811) (by decide +kernel)) rfl
theorem m_770 : Jvm.Cond.instanceMethod ({ cls := "ArithmeticRowsModel", name := "feed", desc := "(I)Z" } : Jvm.MethodName) ∈ TT := TT_in (List.mem_of_getElem? (i := 812) (by decide +kernel)) rfl
theorem m_771 : Jvm.Cond.selects "ArithmeticRowsModel" ({ cls := "ArithmeticRowsModel", name := "feed", desc := "(I)Z" } : Jvm.MethodName) ({ cls := "ArithmeticRowsModel", name := "feed", desc := "(I)Z" } : Jvm.MethodName) ∈ TT := TT_in (List.mem_of_getElem? (i := 813) (by decide +kernel)) rfl
set_option maxRecDepth 20000 in
theorem m_772 : Jvm.Cond.code ({ cls := "ArithmeticRowsModel", name := "feed", desc := "(I)Z" } : Jvm.MethodName) prog_8_method_26_code (2 : Nat) (Option.some Jvm.ClassFile.FieldType.boolean) ∈ TT := TT_in (List.mem_of_getElem? (i := 814) rfl) rfl
theorem m_773 : Jvm.Cond.methodLink "ArithmeticRowsLaw" (78 : Nat) ({ cls := "ArithmeticRowsModel", name := "decode", desc := "(I)I" } : Jvm.MethodName) ∈ TT := TT_in (List.mem_of_getElem? (i := 815) (by decide +kernel)) rfl
theorem m_774 : Jvm.Cond.instanceMethod ({ cls := "ArithmeticRowsModel", name := "decode", desc := "(I)I" } : Jvm.MethodName) ∈ TT := TT_in (List.mem_of_getElem? (i := 816) (by decide +kernel)) rfl
theorem m_775 : Jvm.Cond.selects "ArithmeticRowsModel" ({ cls := "ArithmeticRowsModel", name := "decode", desc := "(I)I" } : Jvm.MethodName) ({ cls := "ArithmeticRowsModel", name := "decode", desc := "(I)I" } : Jvm.MethodName) ∈ TT := TT_in (List.mem_of_getElem? (i := 817) (by decide +kernel)) rfl
set_option maxRecDepth 20000 in
theorem m_776 : Jvm.Cond.code ({ cls := "ArithmeticRowsModel", name := "decode", desc := "(I)I" } : Jvm.MethodName) prog_8_method_27_code (2 : Nat) (Option.some Jvm.ClassFile.FieldType.int) ∈ TT := TT_in (List.mem_of_getElem? (i := 818) rfl) rfl
theorem m_777 : Jvm.Cond.methodLink "ArithmeticRowsModel" (178 : Nat) ({ cls := "ArithmeticRowsModel", name := "readBit", desc := "(I)I" } : Jvm.MethodName) ∈ TT := TT_in (List.mem_of_getElem? (i := 819) (by decide +kernel)) rfl
theorem m_778 : Jvm.Cond.privateMethod ({ cls := "ArithmeticRowsModel", name := "readBit", desc := "(I)I" } : Jvm.MethodName) ∈ lw_tbl := List.mem_of_getElem? (i := 820) (by decide +kernel)
theorem m_779 : Jvm.Cond.instanceMethod ({ cls := "ArithmeticRowsModel", name := "readBit", desc := "(I)I" } : Jvm.MethodName) ∈ TT := TT_in (List.mem_of_getElem? (i := 821) (by decide +kernel)) rfl
set_option maxRecDepth 20000 in
theorem m_780 : Jvm.Cond.code ({ cls := "ArithmeticRowsModel", name := "readBit", desc := "(I)I" } : Jvm.MethodName) prog_8_method_22_code (2 : Nat) (Option.some Jvm.ClassFile.FieldType.int) ∈ TT := TT_in (List.mem_of_getElem? (i := 822) rfl) rfl
theorem m_781 : Jvm.Cond.methodLink "ArithmeticRowsModel" (153 : Nat) ({ cls := "ArithmeticRowsModel", name := "readRaw", desc := "()I" } : Jvm.MethodName) ∈ TT := TT_in (List.mem_of_getElem? (i := 823) (by decide +kernel)) rfl
theorem m_782 : Jvm.Cond.privateMethod ({ cls := "ArithmeticRowsModel", name := "readRaw", desc := "()I" } : Jvm.MethodName) ∈ lw_tbl := List.mem_of_getElem? (i := 824) (by decide +kernel)
theorem m_783 : Jvm.Cond.instanceMethod ({ cls := "ArithmeticRowsModel", name := "readRaw", desc := "()I" } : Jvm.MethodName) ∈ TT := TT_in (List.mem_of_getElem? (i := 825) (by decide +kernel)) rfl
set_option maxRecDepth 20000 in
theorem m_784 : Jvm.Cond.code ({ cls := "ArithmeticRowsModel", name := "readRaw", desc := "()I" } : Jvm.MethodName) prog_8_method_21_code (2 : Nat) (Option.some Jvm.ClassFile.FieldType.int) ∈ TT := TT_in (List.mem_of_getElem? (i := 826) rfl) rfl
theorem m_785 : Jvm.Cond.methodLink "ArithmeticRowsModel" (123 : Nat) ({ cls := "ArithmeticRowsModel", name := "byteFrom", desc := "(I)I" } : Jvm.MethodName) ∈ TT := TT_in (List.mem_of_getElem? (i := 827) (by decide +kernel)) rfl
theorem m_786 : Jvm.Cond.privateMethod ({ cls := "ArithmeticRowsModel", name := "byteFrom", desc := "(I)I" } : Jvm.MethodName) ∈ lw_tbl := List.mem_of_getElem? (i := 828) (by decide +kernel)
theorem m_787 : Jvm.Cond.instanceMethod ({ cls := "ArithmeticRowsModel", name := "byteFrom", desc := "(I)I" } : Jvm.MethodName) ∈ TT := TT_in (List.mem_of_getElem? (i := 829) (by decide +kernel)) rfl
set_option maxRecDepth 20000 in
theorem m_788 : Jvm.Cond.code ({ cls := "ArithmeticRowsModel", name := "byteFrom", desc := "(I)I" } : Jvm.MethodName) prog_8_method_17_code (3 : Nat) (Option.some Jvm.ClassFile.FieldType.int) ∈ TT := TT_in (List.mem_of_getElem? (i := 830) rfl) rfl
theorem m_789 : Jvm.Cond.methodLink "ArithmeticRowsModel" (156 : Nat) ({ cls := "ArithmeticRowsModel", name := "readCoded", desc := "(I)I" } : Jvm.MethodName) ∈ TT := TT_in (List.mem_of_getElem? (i := 831) (by decide +kernel)) rfl
theorem m_790 : Jvm.Cond.privateMethod ({ cls := "ArithmeticRowsModel", name := "readCoded", desc := "(I)I" } : Jvm.MethodName) ∈ lw_tbl := List.mem_of_getElem? (i := 832) (by decide +kernel)
theorem m_791 : Jvm.Cond.instanceMethod ({ cls := "ArithmeticRowsModel", name := "readCoded", desc := "(I)I" } : Jvm.MethodName) ∈ TT := TT_in (List.mem_of_getElem? (i := 833) (by decide +kernel)) rfl
set_option maxRecDepth 20000 in
theorem m_792 : Jvm.Cond.code ({ cls := "ArithmeticRowsModel", name := "readCoded", desc := "(I)I" } : Jvm.MethodName) prog_8_method_20_code (7 : Nat) (Option.some Jvm.ClassFile.FieldType.int) ∈ TT := TT_in (List.mem_of_getElem? (i := 834) rfl) rfl
theorem m_793 : Jvm.Cond.constantLong "ArithmeticRowsModel" (141 : Nat) (65536 : Int64) ∈ TT := TT_in (List.mem_of_getElem? (i := 835) (by decide +kernel)) rfl
theorem m_794 : Jvm.Cond.methodLink "ArithmeticRowsModel" (143 : Nat) ({ cls := "ArithmeticRowsModel", name := "takeByte", desc := "()V" } : Jvm.MethodName) ∈ TT := TT_in (List.mem_of_getElem? (i := 836) (by decide +kernel)) rfl
theorem m_795 : Jvm.Cond.privateMethod ({ cls := "ArithmeticRowsModel", name := "takeByte", desc := "()V" } : Jvm.MethodName) ∈ lw_tbl := List.mem_of_getElem? (i := 837) (by decide +kernel)
theorem m_796 : Jvm.Cond.instanceMethod ({ cls := "ArithmeticRowsModel", name := "takeByte", desc := "()V" } : Jvm.MethodName) ∈ TT := TT_in (List.mem_of_getElem? (i := 838) (by decide +kernel)) rfl
set_option maxRecDepth 20000 in
theorem m_797 : Jvm.Cond.code ({ cls := "ArithmeticRowsModel", name := "takeByte", desc := "()V" } : Jvm.MethodName) prog_8_method_19_code (2 : Nat) (Option.none : Option Jvm.ClassFile.FieldType) ∈ TT := TT_in (List.mem_of_getElem? (i := 839) rfl) rfl
theorem m_798 : Jvm.Cond.constantLong "ArithmeticRowsModel" (130 : Nat) (65280 : Int64) ∈ TT := TT_in (List.mem_of_getElem? (i := 840) (by decide +kernel)) rfl
theorem m_799 : Jvm.Cond.constantLong "ArithmeticRowsModel" (132 : Nat) (4294967296 : Int64) ∈ TT := TT_in (List.mem_of_getElem? (i := 841) (by decide +kernel)) rfl
theorem m_800 : Jvm.Cond.constantLong "ArithmeticRowsModel" (137 : Nat) (512 : Int64) ∈ TT := TT_in (List.mem_of_getElem? (i := 842) (by decide +kernel)) rfl
theorem m_801 : Jvm.Cond.constantLong "ArithmeticRowsModel" (139 : Nat) (256 : Int64) ∈ TT := TT_in (List.mem_of_getElem? (i := 843) (by decide +kernel)) rfl
theorem m_802 : Jvm.Cond.constantLong "ArithmeticRowsModel" (146 : Nat) (128 : Int64) ∈ TT := TT_in (List.mem_of_getElem? (i := 844) (by decide +kernel)) rfl
theorem m_803 : Jvm.Cond.constantLong "ArithmeticRowsModel" (151 : Nat) (2 : Int64) ∈ TT := TT_in (List.mem_of_getElem? (i := 845) (by decide +kernel)) rfl
theorem m_804 : Jvm.Cond.methodLink "ArithmeticRowsLaw" (81 : Nat) ({ cls := "ArithmeticRowsModel", name := "state", desc := "(II)I" } : Jvm.MethodName) ∈ TT := TT_in (List.mem_of_getElem? (i := 846) (by decide +kernel)) rfl
theorem m_805 : Jvm.Cond.instanceMethod ({ cls := "ArithmeticRowsModel", name := "state", desc := "(II)I" } : Jvm.MethodName) ∈ TT := TT_in (List.mem_of_getElem? (i := 847) (by decide +kernel)) rfl
theorem m_806 : Jvm.Cond.selects "ArithmeticRowsModel" ({ cls := "ArithmeticRowsModel", name := "state", desc := "(II)I" } : Jvm.MethodName) ({ cls := "ArithmeticRowsModel", name := "state", desc := "(II)I" } : Jvm.MethodName) ∈ TT := TT_in (List.mem_of_getElem? (i := 848) (by decide +kernel)) rfl
set_option maxRecDepth 20000 in
theorem m_807 : Jvm.Cond.code ({ cls := "ArithmeticRowsModel", name := "state", desc := "(II)I" } : Jvm.MethodName) prog_8_method_28_code (3 : Nat) (Option.some Jvm.ClassFile.FieldType.int) ∈ TT := TT_in (List.mem_of_getElem? (i := 849) rfl) rfl
theorem m_808 : Jvm.Cond.methodLink "ArithmeticRowsLaw" (84 : Nat) ({ cls := "ArithmeticRowsModel", name := "whole", desc := "(II)I" } : Jvm.MethodName) ∈ TT := TT_in (List.mem_of_getElem? (i := 850) (by decide +kernel)) rfl
theorem m_809 : Jvm.Cond.instanceMethod ({ cls := "ArithmeticRowsModel", name := "whole", desc := "(II)I" } : Jvm.MethodName) ∈ TT := TT_in (List.mem_of_getElem? (i := 851) (by decide +kernel)) rfl
theorem m_810 : Jvm.Cond.selects "ArithmeticRowsModel" ({ cls := "ArithmeticRowsModel", name := "whole", desc := "(II)I" } : Jvm.MethodName) ({ cls := "ArithmeticRowsModel", name := "whole", desc := "(II)I" } : Jvm.MethodName) ∈ TT := TT_in (List.mem_of_getElem? (i := 852) (by decide +kernel)) rfl
set_option maxRecDepth 20000 in
theorem m_811 : Jvm.Cond.code ({ cls := "ArithmeticRowsModel", name := "whole", desc := "(II)I" } : Jvm.MethodName) prog_8_method_33_code (4 : Nat) (Option.some Jvm.ClassFile.FieldType.int) ∈ TT := TT_in (List.mem_of_getElem? (i := 853) rfl) rfl
theorem m_812 : Jvm.Cond.methodLink "ArithmeticRowsModel" (202 : Nat) ({ cls := "ArithmeticRowsModel", name := "passWhole", desc := "(II)I" } : Jvm.MethodName) ∈ TT := TT_in (List.mem_of_getElem? (i := 854) (by decide +kernel)) rfl
theorem m_813 : Jvm.Cond.privateMethod ({ cls := "ArithmeticRowsModel", name := "passWhole", desc := "(II)I" } : Jvm.MethodName) ∈ lw_tbl := List.mem_of_getElem? (i := 855) (by decide +kernel)
theorem m_814 : Jvm.Cond.instanceMethod ({ cls := "ArithmeticRowsModel", name := "passWhole", desc := "(II)I" } : Jvm.MethodName) ∈ TT := TT_in (List.mem_of_getElem? (i := 856) (by decide +kernel)) rfl
set_option maxRecDepth 20000 in
theorem m_815 : Jvm.Cond.code ({ cls := "ArithmeticRowsModel", name := "passWhole", desc := "(II)I" } : Jvm.MethodName) prog_8_method_32_code (9 : Nat) (Option.some Jvm.ClassFile.FieldType.int) ∈ TT := TT_in (List.mem_of_getElem? (i := 857) rfl) rfl
theorem m_816 : Jvm.Cond.methodLink "ArithmeticRowsModel" (191 : Nat) ({ cls := "ArithmeticRowsModel", name := "pass", desc := "(II)I" } : Jvm.MethodName) ∈ TT := TT_in (List.mem_of_getElem? (i := 858) (by decide +kernel)) rfl
theorem m_817 : Jvm.Cond.privateMethod ({ cls := "ArithmeticRowsModel", name := "pass", desc := "(II)I" } : Jvm.MethodName) ∈ lw_tbl := List.mem_of_getElem? (i := 859) (by decide +kernel)
theorem m_818 : Jvm.Cond.instanceMethod ({ cls := "ArithmeticRowsModel", name := "pass", desc := "(II)I" } : Jvm.MethodName) ∈ TT := TT_in (List.mem_of_getElem? (i := 860) (by decide +kernel)) rfl
set_option maxRecDepth 20000 in
theorem m_819 : Jvm.Cond.code ({ cls := "ArithmeticRowsModel", name := "pass", desc := "(II)I" } : Jvm.MethodName) prog_8_method_29_code (5 : Nat) (Option.some Jvm.ClassFile.FieldType.int) ∈ TT := TT_in (List.mem_of_getElem? (i := 861) rfl) rfl
theorem m_820 : Jvm.Cond.methodLink "ArithmeticRowsModel" (184 : Nat) ({ cls := "ArithmeticRowsModel", name := "placeIn", desc := "(II)I" } : Jvm.MethodName) ∈ TT := TT_in (List.mem_of_getElem? (i := 862) (by decide +kernel)) rfl
theorem m_821 : Jvm.Cond.privateMethod ({ cls := "ArithmeticRowsModel", name := "placeIn", desc := "(II)I" } : Jvm.MethodName) ∈ lw_tbl := List.mem_of_getElem? (i := 863) (by decide +kernel)
theorem m_822 : Jvm.Cond.instanceMethod ({ cls := "ArithmeticRowsModel", name := "placeIn", desc := "(II)I" } : Jvm.MethodName) ∈ TT := TT_in (List.mem_of_getElem? (i := 864) (by decide +kernel)) rfl
set_option maxRecDepth 20000 in
theorem m_823 : Jvm.Cond.code ({ cls := "ArithmeticRowsModel", name := "placeIn", desc := "(II)I" } : Jvm.MethodName) prog_8_method_6_code (3 : Nat) (Option.some Jvm.ClassFile.FieldType.int) ∈ TT := TT_in (List.mem_of_getElem? (i := 865) rfl) rfl
theorem m_824 : Jvm.Cond.constant "ArithmeticRowsModel" (58 : Nat) (131072 : Int32) ∈ TT := TT_in (List.mem_of_getElem? (i := 866) (by decide +kernel)) rfl
theorem m_825 : Jvm.Cond.constant "ArithmeticRowsModel" (194 : Nat) (-2147483648 : Int32) ∈ TT := TT_in (List.mem_of_getElem? (i := 867) (by decide +kernel)) rfl
theorem m_826 : Jvm.Cond.methodLink "ArithmeticRowsModel" (195 : Nat) ({ cls := "ArithmeticRowsModel", name := "leastOf", desc := "(I)I" } : Jvm.MethodName) ∈ TT := TT_in (List.mem_of_getElem? (i := 868) (by decide +kernel)) rfl
theorem m_827 : Jvm.Cond.static ({ cls := "ArithmeticRowsModel", name := "leastOf", desc := "(I)I" } : Jvm.MethodName) ∈ TT := TT_in (List.mem_of_getElem? (i := 869) (by decide +kernel)) rfl
set_option maxRecDepth 20000 in
theorem m_828 : Jvm.Cond.code ({ cls := "ArithmeticRowsModel", name := "leastOf", desc := "(I)I" } : Jvm.MethodName) prog_8_method_31_code (1 : Nat) (Option.some Jvm.ClassFile.FieldType.int) ∈ TT := TT_in (List.mem_of_getElem? (i := 870) rfl) rfl
theorem m_829 : Jvm.Cond.methodLink "ArithmeticRowsModel" (198 : Nat) ({ cls := "ArithmeticRowsModel", name := "passNumber", desc := "(III)I" } : Jvm.MethodName) ∈ TT := TT_in (List.mem_of_getElem? (i := 871) (by decide +kernel)) rfl
theorem m_830 : Jvm.Cond.privateMethod ({ cls := "ArithmeticRowsModel", name := "passNumber", desc := "(III)I" } : Jvm.MethodName) ∈ lw_tbl := List.mem_of_getElem? (i := 872) (by decide +kernel)
theorem m_831 : Jvm.Cond.instanceMethod ({ cls := "ArithmeticRowsModel", name := "passNumber", desc := "(III)I" } : Jvm.MethodName) ∈ TT := TT_in (List.mem_of_getElem? (i := 873) (by decide +kernel)) rfl
set_option maxRecDepth 20000 in
theorem m_832 : Jvm.Cond.code ({ cls := "ArithmeticRowsModel", name := "passNumber", desc := "(III)I" } : Jvm.MethodName) prog_8_method_30_code (6 : Nat) (Option.some Jvm.ClassFile.FieldType.int) ∈ TT := TT_in (List.mem_of_getElem? (i := 874) rfl) rfl
theorem m_833 : Jvm.Cond.methodLink "ArithmeticRowsLaw" (87 : Nat) ({ cls := "ArithmeticRowsModel", name := "readWhole", desc := "(I)I" } : Jvm.MethodName) ∈ TT := TT_in (List.mem_of_getElem? (i := 875) (by decide +kernel)) rfl
theorem m_834 : Jvm.Cond.instanceMethod ({ cls := "ArithmeticRowsModel", name := "readWhole", desc := "(I)I" } : Jvm.MethodName) ∈ TT := TT_in (List.mem_of_getElem? (i := 876) (by decide +kernel)) rfl
theorem m_835 : Jvm.Cond.selects "ArithmeticRowsModel" ({ cls := "ArithmeticRowsModel", name := "readWhole", desc := "(I)I" } : Jvm.MethodName) ({ cls := "ArithmeticRowsModel", name := "readWhole", desc := "(I)I" } : Jvm.MethodName) ∈ TT := TT_in (List.mem_of_getElem? (i := 877) (by decide +kernel)) rfl
set_option maxRecDepth 20000 in
theorem m_836 : Jvm.Cond.code ({ cls := "ArithmeticRowsModel", name := "readWhole", desc := "(I)I" } : Jvm.MethodName) prog_8_method_34_code (2 : Nat) (Option.some Jvm.ClassFile.FieldType.int) ∈ TT := TT_in (List.mem_of_getElem? (i := 878) rfl) rfl
theorem m_837 : Jvm.Cond.methodLink "ArithmeticRowsLaw" (90 : Nat) ({ cls := "ArithmeticRowsModel", name := "save", desc := "()I" } : Jvm.MethodName) ∈ TT := TT_in (List.mem_of_getElem? (i := 879) (by decide +kernel)) rfl
theorem m_838 : Jvm.Cond.instanceMethod ({ cls := "ArithmeticRowsModel", name := "save", desc := "()I" } : Jvm.MethodName) ∈ TT := TT_in (List.mem_of_getElem? (i := 880) (by decide +kernel)) rfl
theorem m_839 : Jvm.Cond.selects "ArithmeticRowsModel" ({ cls := "ArithmeticRowsModel", name := "save", desc := "()I" } : Jvm.MethodName) ({ cls := "ArithmeticRowsModel", name := "save", desc := "()I" } : Jvm.MethodName) ∈ TT := TT_in (List.mem_of_getElem? (i := 881) (by decide +kernel)) rfl
set_option maxRecDepth 20000 in
theorem m_840 : Jvm.Cond.code ({ cls := "ArithmeticRowsModel", name := "save", desc := "()I" } : Jvm.MethodName) prog_8_method_35_code (2 : Nat) (Option.some Jvm.ClassFile.FieldType.int) ∈ TT := TT_in (List.mem_of_getElem? (i := 882) rfl) rfl
theorem m_841 : Jvm.Cond.methodLink "ArithmeticRowsLaw" (94 : Nat) ({ cls := "ArithmeticRowsModel", name := "back", desc := "(I)Z" } : Jvm.MethodName) ∈ TT := TT_in (List.mem_of_getElem? (i := 883) (by decide +kernel)) rfl
theorem m_842 : Jvm.Cond.instanceMethod ({ cls := "ArithmeticRowsModel", name := "back", desc := "(I)Z" } : Jvm.MethodName) ∈ TT := TT_in (List.mem_of_getElem? (i := 884) (by decide +kernel)) rfl
theorem m_843 : Jvm.Cond.selects "ArithmeticRowsModel" ({ cls := "ArithmeticRowsModel", name := "back", desc := "(I)Z" } : Jvm.MethodName) ({ cls := "ArithmeticRowsModel", name := "back", desc := "(I)Z" } : Jvm.MethodName) ∈ TT := TT_in (List.mem_of_getElem? (i := 885) (by decide +kernel)) rfl
set_option maxRecDepth 20000 in
theorem m_844 : Jvm.Cond.code ({ cls := "ArithmeticRowsModel", name := "back", desc := "(I)Z" } : Jvm.MethodName) prog_8_method_36_code (4 : Nat) (Option.some Jvm.ClassFile.FieldType.boolean) ∈ TT := TT_in (List.mem_of_getElem? (i := 886) rfl) rfl
theorem m_845 : Jvm.Cond.methodLink "ArithmeticRowsLaw" (99 : Nat) ({ cls := "ArithmeticRowsModel", name := "raw", desc := "(Z)Z" } : Jvm.MethodName) ∈ TT := TT_in (List.mem_of_getElem? (i := 887) (by decide +kernel)) rfl
theorem m_846 : Jvm.Cond.instanceMethod ({ cls := "ArithmeticRowsModel", name := "raw", desc := "(Z)Z" } : Jvm.MethodName) ∈ TT := TT_in (List.mem_of_getElem? (i := 888) (by decide +kernel)) rfl
theorem m_847 : Jvm.Cond.selects "ArithmeticRowsModel" ({ cls := "ArithmeticRowsModel", name := "raw", desc := "(Z)Z" } : Jvm.MethodName) ({ cls := "ArithmeticRowsModel", name := "raw", desc := "(Z)Z" } : Jvm.MethodName) ∈ TT := TT_in (List.mem_of_getElem? (i := 889) (by decide +kernel)) rfl
set_option maxRecDepth 20000 in
theorem m_848 : Jvm.Cond.code ({ cls := "ArithmeticRowsModel", name := "raw", desc := "(Z)Z" } : Jvm.MethodName) prog_8_method_37_code (2 : Nat) (Option.some Jvm.ClassFile.FieldType.boolean) ∈ TT := TT_in (List.mem_of_getElem? (i := 890) rfl) rfl
theorem m_849 : Jvm.Cond.methodLink "ArithmeticRowsLaw" (103 : Nat) ({ cls := "ArithmeticRowsModel", name := "beyond", desc := "()I" } : Jvm.MethodName) ∈ TT := TT_in (List.mem_of_getElem? (i := 891) (by decide +kernel)) rfl
theorem m_850 : Jvm.Cond.instanceMethod ({ cls := "ArithmeticRowsModel", name := "beyond", desc := "()I" } : Jvm.MethodName) ∈ TT := TT_in (List.mem_of_getElem? (i := 892) (by decide +kernel)) rfl
theorem m_851 : Jvm.Cond.selects "ArithmeticRowsModel" ({ cls := "ArithmeticRowsModel", name := "beyond", desc := "()I" } : Jvm.MethodName) ({ cls := "ArithmeticRowsModel", name := "beyond", desc := "()I" } : Jvm.MethodName) ∈ TT := TT_in (List.mem_of_getElem? (i := 893) (by decide +kernel)) rfl
set_option maxRecDepth 20000 in
theorem m_852 : Jvm.Cond.code ({ cls := "ArithmeticRowsModel", name := "beyond", desc := "()I" } : Jvm.MethodName) prog_8_method_38_code (2 : Nat) (Option.some Jvm.ClassFile.FieldType.int) ∈ TT := TT_in (List.mem_of_getElem? (i := 894) rfl) rfl
theorem m_853 : Jvm.Cond.methodLink "ArithmeticRowsLaw" (107 : Nat) ({ cls := "ArithmeticRowsModel", name := "reset", desc := "()V" } : Jvm.MethodName) ∈ TT := TT_in (List.mem_of_getElem? (i := 895) (by decide +kernel)) rfl
theorem m_854 : Jvm.Cond.instanceMethod ({ cls := "ArithmeticRowsModel", name := "reset", desc := "()V" } : Jvm.MethodName) ∈ TT := TT_in (List.mem_of_getElem? (i := 896) (by decide +kernel)) rfl
theorem m_855 : Jvm.Cond.selects "ArithmeticRowsModel" ({ cls := "ArithmeticRowsModel", name := "reset", desc := "()V" } : Jvm.MethodName) ({ cls := "ArithmeticRowsModel", name := "reset", desc := "()V" } : Jvm.MethodName) ∈ TT := TT_in (List.mem_of_getElem? (i := 897) (by decide +kernel)) rfl
set_option maxRecDepth 20000 in
theorem m_856 : Jvm.Cond.code ({ cls := "ArithmeticRowsModel", name := "reset", desc := "()V" } : Jvm.MethodName) prog_8_method_39_code (2 : Nat) (Option.none : Option Jvm.ClassFile.FieldType) ∈ TT := TT_in (List.mem_of_getElem? (i := 898) rfl) rfl
theorem m_857 : Jvm.Cond.arrayClass Jvm.ClassFile.FieldType.long ∈ TT := TT_in (List.mem_of_getElem? (i := 899) (by decide +kernel)) rfl
theorem m_858 : Jvm.Cond.sameMethod "java/lang/Throwable" "java/lang/Throwable" "fillInStackTrace" "(I)Ljava/lang/Throwable;" ∈ TT := TT_in (List.mem_of_getElem? (i := 900) (by decide +kernel)) rfl
theorem ms_0 : Cond.selects "ArithmeticRows" ⟨"ArithmeticRows", "sideAtWork", "()LArithmeticRows$Side;"⟩ ⟨"ArithmeticRows", "sideAtWork", "()LArithmeticRows$Side;"⟩ ∈ TT := TT_in (List.mem_of_getElem? (i := 0) (by decide +kernel)) rfl
theorem ms_1 : Cond.selects "ArithmeticRows$Row" ⟨"ArithmeticRows$Row", "has", "(I)Z"⟩ ⟨"ArithmeticRows$Row", "has", "(I)Z"⟩ ∈ TT := TT_in (List.mem_of_getElem? (i := 1) (by decide +kernel)) rfl
theorem ms_2 : Cond.selects "ArithmeticRows$Encoder" ⟨"ArithmeticRows$Encoder", "fillByte", "()V"⟩ ⟨"ArithmeticRows$Encoder", "fillByte", "()V"⟩ ∈ TT := TT_in (List.mem_of_getElem? (i := 2) (by decide +kernel)) rfl
theorem ms_3 : Cond.selects "ArithmeticRows$Encoder" ⟨"ArithmeticRows$Encoder", "putPlain", "(I)V"⟩ ⟨"ArithmeticRows$Encoder", "putPlain", "(I)V"⟩ ∈ TT := TT_in (List.mem_of_getElem? (i := 3) (by decide +kernel)) rfl
theorem ms_4 : Cond.selects "ArithmeticRows$Encoder" ⟨"ArithmeticRows$Encoder", "flush", "()V"⟩ ⟨"ArithmeticRows$Encoder", "flush", "()V"⟩ ∈ TT := TT_in (List.mem_of_getElem? (i := 4) (by decide +kernel)) rfl
theorem ms_5 : Cond.selects "ArithmeticRows$Encoder" ⟨"ArithmeticRows$Encoder", "putOut", "()V"⟩ ⟨"ArithmeticRows$Encoder", "putOut", "()V"⟩ ∈ TT := TT_in (List.mem_of_getElem? (i := 5) (by decide +kernel)) rfl
theorem ms_6 : Cond.selects "ArithmeticRows" ⟨"ArithmeticRows", "needContext", "(I)V"⟩ ⟨"ArithmeticRows", "needContext", "(I)V"⟩ ∈ TT := TT_in (List.mem_of_getElem? (i := 6) (by decide +kernel)) rfl
theorem ms_7 : Cond.selects "java/lang/Throwable" ⟨"java/lang/Throwable", "fillInStackTrace", "(I)Ljava/lang/Throwable;"⟩ ⟨"java/lang/Throwable", "fillInStackTrace", "(I)Ljava/lang/Throwable;"⟩ ∈ TT := TT_in (List.mem_of_getElem? (i := 7) (by decide +kernel)) rfl
theorem ms_8 : Cond.selects "ArithmeticRows" ⟨"ArithmeticRows", "needEncoding", "()V"⟩ ⟨"ArithmeticRows", "needEncoding", "()V"⟩ ∈ TT := TT_in (List.mem_of_getElem? (i := 8) (by decide +kernel)) rfl
theorem ms_9 : Cond.selects "ArithmeticRows$Encoder" ⟨"ArithmeticRows$Encoder", "code", "([III)V"⟩ ⟨"ArithmeticRows$Encoder", "code", "([III)V"⟩ ∈ TT := TT_in (List.mem_of_getElem? (i := 9) (by decide +kernel)) rfl
theorem ms_10 : Cond.selects "ArithmeticRows$Encoder" ⟨"ArithmeticRows$Encoder", "renew", "()V"⟩ ⟨"ArithmeticRows$Encoder", "renew", "()V"⟩ ∈ TT := TT_in (List.mem_of_getElem? (i := 10) (by decide +kernel)) rfl
theorem ms_11 : Cond.selects "ArithmeticRows" ⟨"ArithmeticRows", "needDecoding", "()V"⟩ ⟨"ArithmeticRows", "needDecoding", "()V"⟩ ∈ TT := TT_in (List.mem_of_getElem? (i := 11) (by decide +kernel)) rfl
theorem ms_12 : Cond.selects "ArithmeticRows$Decoder" ⟨"ArithmeticRows$Decoder", "start", "()V"⟩ ⟨"ArithmeticRows$Decoder", "start", "()V"⟩ ∈ TT := TT_in (List.mem_of_getElem? (i := 12) (by decide +kernel)) rfl
theorem ms_13 : Cond.selects "ArithmeticRows$Decoder" ⟨"ArithmeticRows$Decoder", "take", "()V"⟩ ⟨"ArithmeticRows$Decoder", "take", "()V"⟩ ∈ TT := TT_in (List.mem_of_getElem? (i := 13) (by decide +kernel)) rfl
theorem ms_14 : Cond.selects "ArithmeticRows$Decoder" ⟨"ArithmeticRows$Decoder", "readPlain", "()I"⟩ ⟨"ArithmeticRows$Decoder", "readPlain", "()I"⟩ ∈ TT := TT_in (List.mem_of_getElem? (i := 14) (by decide +kernel)) rfl
theorem ms_15 : Cond.selects "ArithmeticRows$Decoder" ⟨"ArithmeticRows$Decoder", "readCoded", "([II)I"⟩ ⟨"ArithmeticRows$Decoder", "readCoded", "([II)I"⟩ ∈ TT := TT_in (List.mem_of_getElem? (i := 15) (by decide +kernel)) rfl
theorem ms_16 : Cond.selects "ArithmeticRows$Decoder" ⟨"ArithmeticRows$Decoder", "renew", "()V"⟩ ⟨"ArithmeticRows$Decoder", "renew", "()V"⟩ ∈ TT := TT_in (List.mem_of_getElem? (i := 16) (by decide +kernel)) rfl
theorem ms_17 : Cond.selects "ArithmeticRows" ⟨"ArithmeticRows", "needSet", "(I)V"⟩ ⟨"ArithmeticRows", "needSet", "(I)V"⟩ ∈ TT := TT_in (List.mem_of_getElem? (i := 17) (by decide +kernel)) rfl
theorem ms_18 : Cond.selects "ArithmeticRows" ⟨"ArithmeticRows", "putBits", "(III)V"⟩ ⟨"ArithmeticRows", "putBits", "(III)V"⟩ ∈ TT := TT_in (List.mem_of_getElem? (i := 18) (by decide +kernel)) rfl
theorem ms_19 : Cond.selects "ArithmeticRows" ⟨"ArithmeticRows", "readBits", "(II)I"⟩ ⟨"ArithmeticRows", "readBits", "(II)I"⟩ ∈ TT := TT_in (List.mem_of_getElem? (i := 19) (by decide +kernel)) rfl
theorem ms_20 : Cond.selects "ArithmeticRowsModel" ⟨"ArithmeticRowsModel", "beginSegment", "(Z)V"⟩ ⟨"ArithmeticRowsModel", "beginSegment", "(Z)V"⟩ ∈ TT := TT_in (List.mem_of_getElem? (i := 20) (by decide +kernel)) rfl
theorem ms_21 : Cond.selects "ArithmeticRowsModel" ⟨"ArithmeticRowsModel", "placeOf", "(I)I"⟩ ⟨"ArithmeticRowsModel", "placeOf", "(I)I"⟩ ∈ TT := TT_in (List.mem_of_getElem? (i := 21) (by decide +kernel)) rfl
theorem ms_22 : Cond.selects "ArithmeticRowsModel" ⟨"ArithmeticRowsModel", "side", "()I"⟩ ⟨"ArithmeticRowsModel", "side", "()I"⟩ ∈ TT := TT_in (List.mem_of_getElem? (i := 22) (by decide +kernel)) rfl
theorem ms_23 : Cond.selects "ArithmeticRowsModel" ⟨"ArithmeticRowsModel", "write", "(II)V"⟩ ⟨"ArithmeticRowsModel", "write", "(II)V"⟩ ∈ TT := TT_in (List.mem_of_getElem? (i := 23) (by decide +kernel)) rfl
theorem ms_24 : Cond.selects "ArithmeticRowsModel" ⟨"ArithmeticRowsModel", "writeRaw", "(I)V"⟩ ⟨"ArithmeticRowsModel", "writeRaw", "(I)V"⟩ ∈ TT := TT_in (List.mem_of_getElem? (i := 24) (by decide +kernel)) rfl
theorem ms_25 : Cond.selects "ArithmeticRowsModel" ⟨"ArithmeticRowsModel", "put", "(I)V"⟩ ⟨"ArithmeticRowsModel", "put", "(I)V"⟩ ∈ TT := TT_in (List.mem_of_getElem? (i := 25) (by decide +kernel)) rfl
theorem ms_26 : Cond.selects "ArithmeticRowsModel" ⟨"ArithmeticRowsModel", "isFull", "()Z"⟩ ⟨"ArithmeticRowsModel", "isFull", "()Z"⟩ ∈ TT := TT_in (List.mem_of_getElem? (i := 26) (by decide +kernel)) rfl
theorem ms_27 : Cond.selects "ArithmeticRowsModel" ⟨"ArithmeticRowsModel", "writeCoded", "(II)V"⟩ ⟨"ArithmeticRowsModel", "writeCoded", "(II)V"⟩ ∈ TT := TT_in (List.mem_of_getElem? (i := 27) (by decide +kernel)) rfl
theorem ms_28 : Cond.selects "ArithmeticRowsModel" ⟨"ArithmeticRowsModel", "sizeOf", "(I)I"⟩ ⟨"ArithmeticRowsModel", "sizeOf", "(I)I"⟩ ∈ TT := TT_in (List.mem_of_getElem? (i := 28) (by decide +kernel)) rfl
theorem ms_29 : Cond.selects "ArithmeticRowsModel" ⟨"ArithmeticRowsModel", "learn", "(IZ)V"⟩ ⟨"ArithmeticRowsModel", "learn", "(IZ)V"⟩ ∈ TT := TT_in (List.mem_of_getElem? (i := 29) (by decide +kernel)) rfl
theorem ms_30 : Cond.selects "ArithmeticRowsModel" ⟨"ArithmeticRowsModel", "putOut", "()V"⟩ ⟨"ArithmeticRowsModel", "putOut", "()V"⟩ ∈ TT := TT_in (List.mem_of_getElem? (i := 30) (by decide +kernel)) rfl
theorem ms_31 : Cond.selects "ArithmeticRowsModel" ⟨"ArithmeticRowsModel", "endSegment", "()V"⟩ ⟨"ArithmeticRowsModel", "endSegment", "()V"⟩ ∈ TT := TT_in (List.mem_of_getElem? (i := 31) (by decide +kernel)) rfl
theorem ms_32 : Cond.selects "ArithmeticRowsModel" ⟨"ArithmeticRowsModel", "beginReading", "(I)V"⟩ ⟨"ArithmeticRowsModel", "beginReading", "(I)V"⟩ ∈ TT := TT_in (List.mem_of_getElem? (i := 32) (by decide +kernel)) rfl
theorem ms_33 : Cond.selects "ArithmeticRowsModel" ⟨"ArithmeticRowsModel", "readBit", "(I)I"⟩ ⟨"ArithmeticRowsModel", "readBit", "(I)I"⟩ ∈ TT := TT_in (List.mem_of_getElem? (i := 33) (by decide +kernel)) rfl
theorem ms_34 : Cond.selects "ArithmeticRowsModel" ⟨"ArithmeticRowsModel", "readRaw", "()I"⟩ ⟨"ArithmeticRowsModel", "readRaw", "()I"⟩ ∈ TT := TT_in (List.mem_of_getElem? (i := 34) (by decide +kernel)) rfl
theorem ms_35 : Cond.selects "ArithmeticRowsModel" ⟨"ArithmeticRowsModel", "byteFrom", "(I)I"⟩ ⟨"ArithmeticRowsModel", "byteFrom", "(I)I"⟩ ∈ TT := TT_in (List.mem_of_getElem? (i := 35) (by decide +kernel)) rfl
theorem ms_36 : Cond.selects "ArithmeticRowsModel" ⟨"ArithmeticRowsModel", "readCoded", "(I)I"⟩ ⟨"ArithmeticRowsModel", "readCoded", "(I)I"⟩ ∈ TT := TT_in (List.mem_of_getElem? (i := 36) (by decide +kernel)) rfl
theorem ms_37 : Cond.selects "ArithmeticRowsModel" ⟨"ArithmeticRowsModel", "takeByte", "()V"⟩ ⟨"ArithmeticRowsModel", "takeByte", "()V"⟩ ∈ TT := TT_in (List.mem_of_getElem? (i := 37) (by decide +kernel)) rfl
theorem ms_38 : Cond.selects "ArithmeticRowsModel" ⟨"ArithmeticRowsModel", "passWhole", "(II)I"⟩ ⟨"ArithmeticRowsModel", "passWhole", "(II)I"⟩ ∈ TT := TT_in (List.mem_of_getElem? (i := 38) (by decide +kernel)) rfl
theorem ms_39 : Cond.selects "ArithmeticRowsModel" ⟨"ArithmeticRowsModel", "pass", "(II)I"⟩ ⟨"ArithmeticRowsModel", "pass", "(II)I"⟩ ∈ TT := TT_in (List.mem_of_getElem? (i := 39) (by decide +kernel)) rfl
theorem ms_40 : Cond.selects "ArithmeticRowsModel" ⟨"ArithmeticRowsModel", "placeIn", "(II)I"⟩ ⟨"ArithmeticRowsModel", "placeIn", "(II)I"⟩ ∈ TT := TT_in (List.mem_of_getElem? (i := 40) (by decide +kernel)) rfl
theorem ms_41 : Cond.selects "ArithmeticRowsModel" ⟨"ArithmeticRowsModel", "passNumber", "(III)I"⟩ ⟨"ArithmeticRowsModel", "passNumber", "(III)I"⟩ ∈ TT := TT_in (List.mem_of_getElem? (i := 41) (by decide +kernel)) rfl
