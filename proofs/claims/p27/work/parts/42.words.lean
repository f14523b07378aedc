theorem wd_18 : (Jvm.Cond.initialized "SerialRecapsLaw") ∈ zG := zG_of 18 (by decide +kernel) (by decide +kernel)
theorem wd_35 : (Jvm.Cond.classLink "SerialRecapsLaw" (10 : Nat) "SerialRecaps") ∈ zG := zG_of 35 (by decide +kernel) (by decide +kernel)
theorem wd_36 : (Jvm.Cond.instantiable "SerialRecaps" (3 : Nat)) ∈ zG := zG_of 36 (by decide +kernel) (by decide +kernel)
theorem wd_37 : (Jvm.Cond.methodLink "SerialRecapsLaw" (98 : Nat) ({ cls := "SerialRecaps", name := "<init>", desc := "()V" } : Jvm.MethodName)) ∈ zG := zG_of 37 (by decide +kernel) (by decide +kernel)
theorem wd_38 : (Jvm.Cond.instanceMethod ({ cls := "SerialRecaps", name := "<init>", desc := "()V" } : Jvm.MethodName)) ∈ zG := zG_of 38 (by decide +kernel) (by decide +kernel)
theorem wd_193 : (Jvm.Cond.methodLink "SerialRecapsLaw" (45 : Nat) ({ cls := "SerialRecaps", name := "undo", desc := "()I" } : Jvm.MethodName)) ∈ zG := zG_of 193 (by decide +kernel) (by decide +kernel)
theorem wd_194 : (Jvm.Cond.instanceMethod ({ cls := "SerialRecaps", name := "undo", desc := "()I" } : Jvm.MethodName)) ∈ zG := zG_of 194 (by decide +kernel) (by decide +kernel)
theorem wd_195 : (Jvm.Cond.selects "SerialRecaps" ({ cls := "SerialRecaps", name := "undo", desc := "()I" } : Jvm.MethodName) ({ cls := "SerialRecaps", name := "undo", desc := "()I" } : Jvm.MethodName)) ∈ zG := zG_of 195 (by decide +kernel) (by decide +kernel)
theorem wd_290 : (Jvm.Cond.methodLink "SerialRecapsLaw" (60 : Nat) ({ cls := "SerialRecaps", name := "count", desc := "(I)I" } : Jvm.MethodName)) ∈ zG := zG_of 290 (by decide +kernel) (by decide +kernel)
theorem wd_291 : (Jvm.Cond.instanceMethod ({ cls := "SerialRecaps", name := "count", desc := "(I)I" } : Jvm.MethodName)) ∈ zG := zG_of 291 (by decide +kernel) (by decide +kernel)
theorem wd_292 : (Jvm.Cond.selects "SerialRecaps" ({ cls := "SerialRecaps", name := "count", desc := "(I)I" } : Jvm.MethodName) ({ cls := "SerialRecaps", name := "count", desc := "(I)I" } : Jvm.MethodName)) ∈ zG := zG_of 292 (by decide +kernel) (by decide +kernel)
theorem wd_341 : (Jvm.Cond.methodLink "SerialRecapsLaw" (178 : Nat) ({ cls := "SerialRecapsLaw", name := "part", desc := "(II)I" } : Jvm.MethodName)) ∈ zG := zG_of 341 (by decide +kernel) (by decide +kernel)
theorem wd_342 : (Jvm.Cond.static ({ cls := "SerialRecapsLaw", name := "part", desc := "(II)I" } : Jvm.MethodName)) ∈ zG := zG_of 342 (by decide +kernel) (by decide +kernel)
theorem wd_344 : (Jvm.Cond.constant "SerialRecapsLaw" (7 : Nat) (2147483647 : Int32)) ∈ zG := zG_of 344 (by decide +kernel) (by decide +kernel)
theorem wd_345 : (Jvm.Cond.methodLink "SerialRecapsLaw" (174 : Nat) ({ cls := "SerialRecapsLaw", name := "drawn", desc := "([II)I" } : Jvm.MethodName)) ∈ zG := zG_of 345 (by decide +kernel) (by decide +kernel)
theorem wd_346 : (Jvm.Cond.static ({ cls := "SerialRecapsLaw", name := "drawn", desc := "([II)I" } : Jvm.MethodName)) ∈ zG := zG_of 346 (by decide +kernel) (by decide +kernel)
theorem wd_348 : (Jvm.Cond.constant "SerialRecapsLaw" (8 : Nat) (2654435 : Int32)) ∈ zG := zG_of 348 (by decide +kernel) (by decide +kernel)
theorem wd_349 : (Jvm.Cond.methodLink "SerialRecapsLaw" (87 : Nat) ({ cls := "SerialRecapsLaw", name := "told", desc := "(LSerialRecaps;IIII)I" } : Jvm.MethodName)) ∈ zG := zG_of 349 (by decide +kernel) (by decide +kernel)
theorem wd_350 : (Jvm.Cond.static ({ cls := "SerialRecapsLaw", name := "told", desc := "(LSerialRecaps;IIII)I" } : Jvm.MethodName)) ∈ zG := zG_of 350 (by decide +kernel) (by decide +kernel)
theorem wd_352 : (Jvm.Cond.classLink "SerialRecapsLaw" (81 : Nat) "java/lang/IllegalArgumentException") ∈ zG := zG_of 352 (by decide +kernel) (by decide +kernel)
theorem wd_353 : (Jvm.Cond.classLink "SerialRecapsLaw" (83 : Nat) "java/lang/IllegalStateException") ∈ zG := zG_of 353 (by decide +kernel) (by decide +kernel)
theorem wd_354 : (Jvm.Cond.classLink "SerialRecapsLaw" (85 : Nat) "java/lang/IndexOutOfBoundsException") ∈ zG := zG_of 354 (by decide +kernel) (by decide +kernel)
theorem wd_355 : (Jvm.Cond.methodLink "SerialRecapsLaw" (75 : Nat) ({ cls := "SerialRecapsLaw", name := "call", desc := "(LSerialRecaps;IIII)I" } : Jvm.MethodName)) ∈ zG := zG_of 355 (by decide +kernel) (by decide +kernel)
theorem wd_356 : (Jvm.Cond.static ({ cls := "SerialRecapsLaw", name := "call", desc := "(LSerialRecaps;IIII)I" } : Jvm.MethodName)) ∈ zG := zG_of 356 (by decide +kernel) (by decide +kernel)
theorem wd_358 : (Jvm.Cond.methodLink "SerialRecapsLaw" (9 : Nat) ({ cls := "SerialRecaps", name := "add", desc := "(III)I" } : Jvm.MethodName)) ∈ zG := zG_of 358 (by decide +kernel) (by decide +kernel)
theorem wd_359 : (Jvm.Cond.instanceMethod ({ cls := "SerialRecaps", name := "add", desc := "(III)I" } : Jvm.MethodName)) ∈ zG := zG_of 359 (by decide +kernel) (by decide +kernel)
theorem wd_360 : (Jvm.Cond.selects "SerialRecaps" ({ cls := "SerialRecaps", name := "add", desc := "(III)I" } : Jvm.MethodName) ({ cls := "SerialRecaps", name := "add", desc := "(III)I" } : Jvm.MethodName)) ∈ zG := zG_of 360 (by decide +kernel) (by decide +kernel)
theorem wd_386 : (Jvm.Cond.methodLink "SerialRecapsLaw" (15 : Nat) ({ cls := "SerialRecaps", name := "change", desc := "(III)I" } : Jvm.MethodName)) ∈ zG := zG_of 386 (by decide +kernel) (by decide +kernel)
theorem wd_387 : (Jvm.Cond.instanceMethod ({ cls := "SerialRecaps", name := "change", desc := "(III)I" } : Jvm.MethodName)) ∈ zG := zG_of 387 (by decide +kernel) (by decide +kernel)
theorem wd_388 : (Jvm.Cond.selects "SerialRecaps" ({ cls := "SerialRecaps", name := "change", desc := "(III)I" } : Jvm.MethodName) ({ cls := "SerialRecaps", name := "change", desc := "(III)I" } : Jvm.MethodName)) ∈ zG := zG_of 388 (by decide +kernel) (by decide +kernel)
theorem wd_414 : (Jvm.Cond.methodLink "SerialRecapsLaw" (18 : Nat) ({ cls := "SerialRecaps", name := "removeLast", desc := "()I" } : Jvm.MethodName)) ∈ zG := zG_of 414 (by decide +kernel) (by decide +kernel)
theorem wd_415 : (Jvm.Cond.instanceMethod ({ cls := "SerialRecaps", name := "removeLast", desc := "()I" } : Jvm.MethodName)) ∈ zG := zG_of 415 (by decide +kernel) (by decide +kernel)
theorem wd_416 : (Jvm.Cond.selects "SerialRecaps" ({ cls := "SerialRecaps", name := "removeLast", desc := "()I" } : Jvm.MethodName) ({ cls := "SerialRecaps", name := "removeLast", desc := "()I" } : Jvm.MethodName)) ∈ zG := zG_of 416 (by decide +kernel) (by decide +kernel)
theorem wd_438 : (Jvm.Cond.methodLink "SerialRecapsLaw" (22 : Nat) ({ cls := "SerialRecaps", name := "set", desc := "(II)I" } : Jvm.MethodName)) ∈ zG := zG_of 438 (by decide +kernel) (by decide +kernel)
theorem wd_439 : (Jvm.Cond.instanceMethod ({ cls := "SerialRecaps", name := "set", desc := "(II)I" } : Jvm.MethodName)) ∈ zG := zG_of 439 (by decide +kernel) (by decide +kernel)
theorem wd_440 : (Jvm.Cond.selects "SerialRecaps" ({ cls := "SerialRecaps", name := "set", desc := "(II)I" } : Jvm.MethodName) ({ cls := "SerialRecaps", name := "set", desc := "(II)I" } : Jvm.MethodName)) ∈ zG := zG_of 440 (by decide +kernel) (by decide +kernel)
theorem wd_447 : (Jvm.Cond.methodLink "SerialRecapsLaw" (26 : Nat) ({ cls := "SerialRecaps", name := "mail", desc := "(II)I" } : Jvm.MethodName)) ∈ zG := zG_of 447 (by decide +kernel) (by decide +kernel)
theorem wd_448 : (Jvm.Cond.instanceMethod ({ cls := "SerialRecaps", name := "mail", desc := "(II)I" } : Jvm.MethodName)) ∈ zG := zG_of 448 (by decide +kernel) (by decide +kernel)
theorem wd_449 : (Jvm.Cond.selects "SerialRecaps" ({ cls := "SerialRecaps", name := "mail", desc := "(II)I" } : Jvm.MethodName) ({ cls := "SerialRecaps", name := "mail", desc := "(II)I" } : Jvm.MethodName)) ∈ zG := zG_of 449 (by decide +kernel) (by decide +kernel)
theorem wd_489 : (Jvm.Cond.methodLink "SerialRecapsLaw" (29 : Nat) ({ cls := "SerialRecaps", name := "mailAll", desc := "(II)I" } : Jvm.MethodName)) ∈ zG := zG_of 489 (by decide +kernel) (by decide +kernel)
theorem wd_490 : (Jvm.Cond.instanceMethod ({ cls := "SerialRecaps", name := "mailAll", desc := "(II)I" } : Jvm.MethodName)) ∈ zG := zG_of 490 (by decide +kernel) (by decide +kernel)
theorem wd_491 : (Jvm.Cond.selects "SerialRecaps" ({ cls := "SerialRecaps", name := "mailAll", desc := "(II)I" } : Jvm.MethodName) ({ cls := "SerialRecaps", name := "mailAll", desc := "(II)I" } : Jvm.MethodName)) ∈ zG := zG_of 491 (by decide +kernel) (by decide +kernel)
theorem wd_500 : (Jvm.Cond.methodLink "SerialRecapsLaw" (32 : Nat) ({ cls := "SerialRecaps", name := "forget", desc := "(I)I" } : Jvm.MethodName)) ∈ zG := zG_of 500 (by decide +kernel) (by decide +kernel)
theorem wd_501 : (Jvm.Cond.instanceMethod ({ cls := "SerialRecaps", name := "forget", desc := "(I)I" } : Jvm.MethodName)) ∈ zG := zG_of 501 (by decide +kernel) (by decide +kernel)
theorem wd_502 : (Jvm.Cond.selects "SerialRecaps" ({ cls := "SerialRecaps", name := "forget", desc := "(I)I" } : Jvm.MethodName) ({ cls := "SerialRecaps", name := "forget", desc := "(I)I" } : Jvm.MethodName)) ∈ zG := zG_of 502 (by decide +kernel) (by decide +kernel)
theorem wd_509 : (Jvm.Cond.methodLink "SerialRecapsLaw" (36 : Nat) ({ cls := "SerialRecaps", name := "catchUp", desc := "(I)I" } : Jvm.MethodName)) ∈ zG := zG_of 509 (by decide +kernel) (by decide +kernel)
theorem wd_510 : (Jvm.Cond.instanceMethod ({ cls := "SerialRecaps", name := "catchUp", desc := "(I)I" } : Jvm.MethodName)) ∈ zG := zG_of 510 (by decide +kernel) (by decide +kernel)
theorem wd_511 : (Jvm.Cond.selects "SerialRecaps" ({ cls := "SerialRecaps", name := "catchUp", desc := "(I)I" } : Jvm.MethodName) ({ cls := "SerialRecaps", name := "catchUp", desc := "(I)I" } : Jvm.MethodName)) ∈ zG := zG_of 511 (by decide +kernel) (by decide +kernel)
theorem wd_517 : (Jvm.Cond.methodLink "SerialRecapsLaw" (39 : Nat) ({ cls := "SerialRecaps", name := "append", desc := "(I)I" } : Jvm.MethodName)) ∈ zG := zG_of 517 (by decide +kernel) (by decide +kernel)
theorem wd_518 : (Jvm.Cond.instanceMethod ({ cls := "SerialRecaps", name := "append", desc := "(I)I" } : Jvm.MethodName)) ∈ zG := zG_of 518 (by decide +kernel) (by decide +kernel)
theorem wd_519 : (Jvm.Cond.selects "SerialRecaps" ({ cls := "SerialRecaps", name := "append", desc := "(I)I" } : Jvm.MethodName) ({ cls := "SerialRecaps", name := "append", desc := "(I)I" } : Jvm.MethodName)) ∈ zG := zG_of 519 (by decide +kernel) (by decide +kernel)
theorem wd_527 : (Jvm.Cond.methodLink "SerialRecapsLaw" (42 : Nat) ({ cls := "SerialRecaps", name := "addAll", desc := "()I" } : Jvm.MethodName)) ∈ zG := zG_of 527 (by decide +kernel) (by decide +kernel)
theorem wd_528 : (Jvm.Cond.instanceMethod ({ cls := "SerialRecaps", name := "addAll", desc := "()I" } : Jvm.MethodName)) ∈ zG := zG_of 528 (by decide +kernel) (by decide +kernel)
theorem wd_529 : (Jvm.Cond.selects "SerialRecaps" ({ cls := "SerialRecaps", name := "addAll", desc := "()I" } : Jvm.MethodName) ({ cls := "SerialRecaps", name := "addAll", desc := "()I" } : Jvm.MethodName)) ∈ zG := zG_of 529 (by decide +kernel) (by decide +kernel)
theorem wd_584 : (Jvm.Cond.methodLink "SerialRecapsLaw" (48 : Nat) ({ cls := "SerialRecaps", name := "part", desc := "(II)I" } : Jvm.MethodName)) ∈ zG := zG_of 584 (by decide +kernel) (by decide +kernel)
theorem wd_585 : (Jvm.Cond.instanceMethod ({ cls := "SerialRecaps", name := "part", desc := "(II)I" } : Jvm.MethodName)) ∈ zG := zG_of 585 (by decide +kernel) (by decide +kernel)
theorem wd_586 : (Jvm.Cond.selects "SerialRecaps" ({ cls := "SerialRecaps", name := "part", desc := "(II)I" } : Jvm.MethodName) ({ cls := "SerialRecaps", name := "part", desc := "(II)I" } : Jvm.MethodName)) ∈ zG := zG_of 586 (by decide +kernel) (by decide +kernel)
theorem wd_597 : (Jvm.Cond.methodLink "SerialRecapsLaw" (51 : Nat) ({ cls := "SerialRecaps", name := "knows", desc := "(II)I" } : Jvm.MethodName)) ∈ zG := zG_of 597 (by decide +kernel) (by decide +kernel)
theorem wd_598 : (Jvm.Cond.instanceMethod ({ cls := "SerialRecaps", name := "knows", desc := "(II)I" } : Jvm.MethodName)) ∈ zG := zG_of 598 (by decide +kernel) (by decide +kernel)
theorem wd_599 : (Jvm.Cond.selects "SerialRecaps" ({ cls := "SerialRecaps", name := "knows", desc := "(II)I" } : Jvm.MethodName) ({ cls := "SerialRecaps", name := "knows", desc := "(II)I" } : Jvm.MethodName)) ∈ zG := zG_of 599 (by decide +kernel) (by decide +kernel)
theorem wd_605 : (Jvm.Cond.methodLink "SerialRecapsLaw" (54 : Nat) ({ cls := "SerialRecaps", name := "reader", desc := "(II)I" } : Jvm.MethodName)) ∈ zG := zG_of 605 (by decide +kernel) (by decide +kernel)
theorem wd_606 : (Jvm.Cond.instanceMethod ({ cls := "SerialRecaps", name := "reader", desc := "(II)I" } : Jvm.MethodName)) ∈ zG := zG_of 606 (by decide +kernel) (by decide +kernel)
theorem wd_607 : (Jvm.Cond.selects "SerialRecaps" ({ cls := "SerialRecaps", name := "reader", desc := "(II)I" } : Jvm.MethodName) ({ cls := "SerialRecaps", name := "reader", desc := "(II)I" } : Jvm.MethodName)) ∈ zG := zG_of 607 (by decide +kernel) (by decide +kernel)
theorem wd_617 : (Jvm.Cond.methodLink "SerialRecapsLaw" (57 : Nat) ({ cls := "SerialRecaps", name := "plot", desc := "(II)I" } : Jvm.MethodName)) ∈ zG := zG_of 617 (by decide +kernel) (by decide +kernel)
theorem wd_618 : (Jvm.Cond.instanceMethod ({ cls := "SerialRecaps", name := "plot", desc := "(II)I" } : Jvm.MethodName)) ∈ zG := zG_of 618 (by decide +kernel) (by decide +kernel)
theorem wd_619 : (Jvm.Cond.selects "SerialRecaps" ({ cls := "SerialRecaps", name := "plot", desc := "(II)I" } : Jvm.MethodName) ({ cls := "SerialRecaps", name := "plot", desc := "(II)I" } : Jvm.MethodName)) ∈ zG := zG_of 619 (by decide +kernel) (by decide +kernel)
theorem wd_642 : (Jvm.Cond.methodLink "SerialRecapsLaw" (63 : Nat) ({ cls := "SerialRecaps", name := "setting", desc := "(I)I" } : Jvm.MethodName)) ∈ zG := zG_of 642 (by decide +kernel) (by decide +kernel)
theorem wd_643 : (Jvm.Cond.instanceMethod ({ cls := "SerialRecaps", name := "setting", desc := "(I)I" } : Jvm.MethodName)) ∈ zG := zG_of 643 (by decide +kernel) (by decide +kernel)
theorem wd_644 : (Jvm.Cond.selects "SerialRecaps" ({ cls := "SerialRecaps", name := "setting", desc := "(I)I" } : Jvm.MethodName) ({ cls := "SerialRecaps", name := "setting", desc := "(I)I" } : Jvm.MethodName)) ∈ zG := zG_of 644 (by decide +kernel) (by decide +kernel)
theorem wd_646 : (Jvm.Cond.methodLink "SerialRecapsLaw" (66 : Nat) ({ cls := "SerialRecaps", name := "recap", desc := "(III)I" } : Jvm.MethodName)) ∈ zG := zG_of 646 (by decide +kernel) (by decide +kernel)
theorem wd_647 : (Jvm.Cond.instanceMethod ({ cls := "SerialRecaps", name := "recap", desc := "(III)I" } : Jvm.MethodName)) ∈ zG := zG_of 647 (by decide +kernel) (by decide +kernel)
theorem wd_648 : (Jvm.Cond.selects "SerialRecaps" ({ cls := "SerialRecaps", name := "recap", desc := "(III)I" } : Jvm.MethodName) ({ cls := "SerialRecaps", name := "recap", desc := "(III)I" } : Jvm.MethodName)) ∈ zG := zG_of 648 (by decide +kernel) (by decide +kernel)
theorem wd_654 : (Jvm.Cond.methodLink "SerialRecapsLaw" (69 : Nat) ({ cls := "SerialRecaps", name := "easiest", desc := "(I)I" } : Jvm.MethodName)) ∈ zG := zG_of 654 (by decide +kernel) (by decide +kernel)
theorem wd_655 : (Jvm.Cond.instanceMethod ({ cls := "SerialRecaps", name := "easiest", desc := "(I)I" } : Jvm.MethodName)) ∈ zG := zG_of 655 (by decide +kernel) (by decide +kernel)
theorem wd_656 : (Jvm.Cond.selects "SerialRecaps" ({ cls := "SerialRecaps", name := "easiest", desc := "(I)I" } : Jvm.MethodName) ({ cls := "SerialRecaps", name := "easiest", desc := "(I)I" } : Jvm.MethodName)) ∈ zG := zG_of 656 (by decide +kernel) (by decide +kernel)
theorem wd_663 : (Jvm.Cond.methodLink "SerialRecapsLaw" (72 : Nat) ({ cls := "SerialRecaps", name := "enough", desc := "(I)I" } : Jvm.MethodName)) ∈ zG := zG_of 663 (by decide +kernel) (by decide +kernel)
theorem wd_664 : (Jvm.Cond.instanceMethod ({ cls := "SerialRecaps", name := "enough", desc := "(I)I" } : Jvm.MethodName)) ∈ zG := zG_of 664 (by decide +kernel) (by decide +kernel)
theorem wd_665 : (Jvm.Cond.selects "SerialRecaps" ({ cls := "SerialRecaps", name := "enough", desc := "(I)I" } : Jvm.MethodName) ({ cls := "SerialRecaps", name := "enough", desc := "(I)I" } : Jvm.MethodName)) ∈ zG := zG_of 665 (by decide +kernel) (by decide +kernel)
theorem wd_674 : (Jvm.Cond.methodLink "SerialRecapsLaw" (103 : Nat) ({ cls := "SerialRecapsLaw", name := "refused", desc := "(LSerialRecaps;)Z" } : Jvm.MethodName)) ∈ zG := zG_of 674 (by decide +kernel) (by decide +kernel)
theorem wd_675 : (Jvm.Cond.static ({ cls := "SerialRecapsLaw", name := "refused", desc := "(LSerialRecaps;)Z" } : Jvm.MethodName)) ∈ zG := zG_of 675 (by decide +kernel) (by decide +kernel)
theorem wd_677 : (Jvm.Cond.methodLink "SerialRecapsLaw" (90 : Nat) ({ cls := "SerialRecaps", name := "digest", desc := "()J" } : Jvm.MethodName)) ∈ zG := zG_of 677 (by decide +kernel) (by decide +kernel)
theorem wd_678 : (Jvm.Cond.instanceMethod ({ cls := "SerialRecaps", name := "digest", desc := "()J" } : Jvm.MethodName)) ∈ zG := zG_of 678 (by decide +kernel) (by decide +kernel)
theorem wd_679 : (Jvm.Cond.selects "SerialRecaps" ({ cls := "SerialRecaps", name := "digest", desc := "()J" } : Jvm.MethodName) ({ cls := "SerialRecaps", name := "digest", desc := "()J" } : Jvm.MethodName)) ∈ zG := zG_of 679 (by decide +kernel) (by decide +kernel)
theorem wd_716 : (Jvm.Cond.methodLink "SerialRecapsLaw" (94 : Nat) ({ cls := "SerialRecapsLaw", name := "refusesAny", desc := "(LSerialRecaps;I)Z" } : Jvm.MethodName)) ∈ zG := zG_of 716 (by decide +kernel) (by decide +kernel)
theorem wd_717 : (Jvm.Cond.static ({ cls := "SerialRecapsLaw", name := "refusesAny", desc := "(LSerialRecaps;I)Z" } : Jvm.MethodName)) ∈ zG := zG_of 717 (by decide +kernel) (by decide +kernel)
theorem wd_719 : (Jvm.Cond.methodLink "SerialRecapsLaw" (167 : Nat) ({ cls := "SerialRecapsLaw", name := "serial", desc := "()Z" } : Jvm.MethodName)) ∈ zG := zG_of 719 (by decide +kernel) (by decide +kernel)
theorem wd_720 : (Jvm.Cond.static ({ cls := "SerialRecapsLaw", name := "serial", desc := "()Z" } : Jvm.MethodName)) ∈ zG := zG_of 720 (by decide +kernel) (by decide +kernel)
theorem wd_722 : (Jvm.Cond.methodLink "SerialRecapsLaw" (99 : Nat) ({ cls := "SerialRecaps", name := "readShare", desc := "()D" } : Jvm.MethodName)) ∈ zG := zG_of 722 (by decide +kernel) (by decide +kernel)
theorem wd_723 : (Jvm.Cond.instanceMethod ({ cls := "SerialRecaps", name := "readShare", desc := "()D" } : Jvm.MethodName)) ∈ zG := zG_of 723 (by decide +kernel) (by decide +kernel)
theorem wd_724 : (Jvm.Cond.selects "SerialRecaps" ({ cls := "SerialRecaps", name := "readShare", desc := "()D" } : Jvm.MethodName) ({ cls := "SerialRecaps", name := "readShare", desc := "()D" } : Jvm.MethodName)) ∈ zG := zG_of 724 (by decide +kernel) (by decide +kernel)
theorem wd_726 : (Jvm.Cond.constantDouble "SerialRecapsLaw" (107 : Nat) (4599676419421066581 : UInt64)) ∈ zG := zG_of 726 (by decide +kernel) (by decide +kernel)
theorem wd_727 : (Jvm.Cond.methodLink "SerialRecapsLaw" (109 : Nat) ({ cls := "SerialRecaps", name := "clearBuffer", desc := "()I" } : Jvm.MethodName)) ∈ zG := zG_of 727 (by decide +kernel) (by decide +kernel)
theorem wd_728 : (Jvm.Cond.instanceMethod ({ cls := "SerialRecaps", name := "clearBuffer", desc := "()I" } : Jvm.MethodName)) ∈ zG := zG_of 728 (by decide +kernel) (by decide +kernel)
theorem wd_729 : (Jvm.Cond.selects "SerialRecaps" ({ cls := "SerialRecaps", name := "clearBuffer", desc := "()I" } : Jvm.MethodName) ({ cls := "SerialRecaps", name := "clearBuffer", desc := "()I" } : Jvm.MethodName)) ∈ zG := zG_of 729 (by decide +kernel) (by decide +kernel)
theorem wd_731 : (Jvm.Cond.methodLink "SerialRecapsLaw" (171 : Nat) ({ cls := "SerialRecapsLaw", name := "texts", desc := "()Z" } : Jvm.MethodName)) ∈ zG := zG_of 731 (by decide +kernel) (by decide +kernel)
theorem wd_732 : (Jvm.Cond.static ({ cls := "SerialRecapsLaw", name := "texts", desc := "()Z" } : Jvm.MethodName)) ∈ zG := zG_of 732 (by decide +kernel) (by decide +kernel)
theorem wd_734 : (Jvm.Cond.methodLink "SerialRecapsLaw" (121 : Nat) ({ cls := "SerialRecapsLaw", name := "errorOf", desc := "(JJ)I" } : Jvm.MethodName)) ∈ zG := zG_of 734 (by decide +kernel) (by decide +kernel)
theorem wd_735 : (Jvm.Cond.static ({ cls := "SerialRecapsLaw", name := "errorOf", desc := "(JJ)I" } : Jvm.MethodName)) ∈ zG := zG_of 735 (by decide +kernel) (by decide +kernel)
theorem wd_737 : (Jvm.Cond.methodLink "SerialRecapsLaw" (114 : Nat) ({ cls := "SerialRecapsLaw", name := "types", desc := "(LSerialRecaps;J)Z" } : Jvm.MethodName)) ∈ zG := zG_of 737 (by decide +kernel) (by decide +kernel)
theorem wd_738 : (Jvm.Cond.static ({ cls := "SerialRecapsLaw", name := "types", desc := "(LSerialRecaps;J)Z" } : Jvm.MethodName)) ∈ zG := zG_of 738 (by decide +kernel) (by decide +kernel)
theorem wd_740 : (Jvm.Cond.constantLong "SerialRecapsLaw" (112 : Nat) (255 : Int64)) ∈ zG := zG_of 740 (by decide +kernel) (by decide +kernel)
theorem wd_741 : (Jvm.Cond.methodLink "SerialRecapsLaw" (118 : Nat) ({ cls := "SerialRecaps", name := "firstError", desc := "()I" } : Jvm.MethodName)) ∈ zG := zG_of 741 (by decide +kernel) (by decide +kernel)
theorem wd_742 : (Jvm.Cond.instanceMethod ({ cls := "SerialRecaps", name := "firstError", desc := "()I" } : Jvm.MethodName)) ∈ zG := zG_of 742 (by decide +kernel) (by decide +kernel)
theorem wd_743 : (Jvm.Cond.selects "SerialRecaps" ({ cls := "SerialRecaps", name := "firstError", desc := "()I" } : Jvm.MethodName) ({ cls := "SerialRecaps", name := "firstError", desc := "()I" } : Jvm.MethodName)) ∈ zG := zG_of 743 (by decide +kernel) (by decide +kernel)
theorem wd_746 : (Jvm.Cond.constantLong "SerialRecapsLaw" (125 : Nat) (12592 : Int64)) ∈ zG := zG_of 746 (by decide +kernel) (by decide +kernel)
theorem wd_747 : (Jvm.Cond.constantLong "SerialRecapsLaw" (127 : Nat) (3154225 : Int64)) ∈ zG := zG_of 747 (by decide +kernel) (by decide +kernel)
theorem wd_748 : (Jvm.Cond.constantLong "SerialRecapsLaw" (129 : Nat) (3154224 : Int64)) ∈ zG := zG_of 748 (by decide +kernel) (by decide +kernel)
theorem wd_749 : (Jvm.Cond.constantLong "SerialRecapsLaw" (131 : Nat) (52987568420656 : Int64)) ∈ zG := zG_of 749 (by decide +kernel) (by decide +kernel)
theorem wd_750 : (Jvm.Cond.constantLong "SerialRecapsLaw" (133 : Nat) (12407 : Int64)) ∈ zG := zG_of 750 (by decide +kernel) (by decide +kernel)
theorem wd_751 : (Jvm.Cond.constantLong "SerialRecapsLaw" (135 : Nat) (208158142512 : Int64)) ∈ zG := zG_of 751 (by decide +kernel) (by decide +kernel)
theorem wd_752 : (Jvm.Cond.constantLong "SerialRecapsLaw" (137 : Nat) (813118753 : Int64)) ∈ zG := zG_of 752 (by decide +kernel) (by decide +kernel)
theorem wd_753 : (Jvm.Cond.constantLong "SerialRecapsLaw" (139 : Nat) (3488560 : Int64)) ∈ zG := zG_of 753 (by decide +kernel) (by decide +kernel)
theorem wd_754 : (Jvm.Cond.constantLong "SerialRecapsLaw" (141 : Nat) (59 : Int64)) ∈ zG := zG_of 754 (by decide +kernel) (by decide +kernel)
theorem wd_755 : (Jvm.Cond.constantLong "SerialRecapsLaw" (143 : Nat) (12347 : Int64)) ∈ zG := zG_of 755 (by decide +kernel) (by decide +kernel)
theorem wd_756 : (Jvm.Cond.constantLong "SerialRecapsLaw" (145 : Nat) (12336 : Int64)) ∈ zG := zG_of 756 (by decide +kernel) (by decide +kernel)
theorem wd_757 : (Jvm.Cond.constantLong "SerialRecapsLaw" (147 : Nat) (54 : Int64)) ∈ zG := zG_of 757 (by decide +kernel) (by decide +kernel)
theorem wd_758 : (Jvm.Cond.constantLong "SerialRecapsLaw" (149 : Nat) (12321 : Int64)) ∈ zG := zG_of 758 (by decide +kernel) (by decide +kernel)
theorem wd_759 : (Jvm.Cond.constantLong "SerialRecapsLaw" (151 : Nat) (3472611983179981109 : Int64)) ∈ zG := zG_of 759 (by decide +kernel) (by decide +kernel)
theorem wd_760 : (Jvm.Cond.constantLong "SerialRecapsLaw" (153 : Nat) (7813433 : Int64)) ∈ zG := zG_of 760 (by decide +kernel) (by decide +kernel)
theorem wd_761 : (Jvm.Cond.constantLong "SerialRecapsLaw" (155 : Nat) (208158669115 : Int64)) ∈ zG := zG_of 761 (by decide +kernel) (by decide +kernel)
theorem wd_762 : (Jvm.Cond.constantLong "SerialRecapsLaw" (157 : Nat) (807481392 : Int64)) ∈ zG := zG_of 762 (by decide +kernel) (by decide +kernel)
theorem wd_763 : (Jvm.Cond.constantLong "SerialRecapsLaw" (159 : Nat) (3176311 : Int64)) ∈ zG := zG_of 763 (by decide +kernel) (by decide +kernel)
theorem wd_764 : (Jvm.Cond.constantLong "SerialRecapsLaw" (161 : Nat) (3472874763288263477 : Int64)) ∈ zG := zG_of 764 (by decide +kernel) (by decide +kernel)
theorem wd_765 : (Jvm.Cond.constantLong "SerialRecapsLaw" (163 : Nat) (993075505 : Int64)) ∈ zG := zG_of 765 (by decide +kernel) (by decide +kernel)
theorem wd_766 : (Jvm.Cond.methodLink "SerialRecapsLaw" (179 : Nat) ({ cls := "SerialRecapsLaw", name := "seen", desc := "(LSerialRecaps;)J" } : Jvm.MethodName)) ∈ zG := zG_of 766 (by decide +kernel) (by decide +kernel)
theorem wd_767 : (Jvm.Cond.static ({ cls := "SerialRecapsLaw", name := "seen", desc := "(LSerialRecaps;)J" } : Jvm.MethodName)) ∈ zG := zG_of 767 (by decide +kernel) (by decide +kernel)
theorem wd_769 : (Jvm.Cond.constantLong "SerialRecapsLaw" (165 : Nat) (31 : Int64)) ∈ zG := zG_of 769 (by decide +kernel) (by decide +kernel)
theorem wd_770 : (Jvm.Cond.arrayClass Jvm.ClassFile.FieldType.long) ∈ zG := zG_of 770 (by decide +kernel) (by decide +kernel)
theorem ok_L_call : zOK yL_call 5 := by unfold zOK; decide +kernel
theorem ok_L_drawn : zOK yL_drawn 2 := by unfold zOK; decide +kernel
theorem ok_L_errorOf : zOK yL_errorOf 2 := by unfold zOK; decide +kernel
theorem ok_L_part : zOK yL_part 2 := by unfold zOK; decide +kernel
theorem ok_L_refused : zOK yL_refused 1 := by unfold zOK; decide +kernel
theorem ok_L_refusesAny : zOK yL_refusesAny 2 := by unfold zOK; decide +kernel
theorem ok_L_seen : zOK yL_seen 1 := by unfold zOK; decide +kernel
theorem ok_L_serial : zOK yL_serial 0 := by unfold zOK; decide +kernel
theorem ok_L_texts : zOK yL_texts 0 := by unfold zOK; decide +kernel
theorem ok_L_told : zOK yL_told 5 := by unfold zOK; decide +kernel
theorem ok_L_types : zOK yL_types 2 := by unfold zOK; decide +kernel
theorem ok_X6_add : zOK yX6_add 3 := by unfold zOK; decide +kernel
theorem ok_X6_addAll : zOK yX6_addAll 0 := by unfold zOK; decide +kernel
theorem ok_X6_append : zOK yX6_append 1 := by unfold zOK; decide +kernel
theorem ok_X6_catchUp : zOK yX6_catchUp 1 := by unfold zOK; decide +kernel
theorem ok_X6_change : zOK yX6_change 3 := by unfold zOK; decide +kernel
theorem ok_X6_clearBuffer : zOK yX6_clearBuffer 0 := by unfold zOK; decide +kernel
theorem ok_X6_count : zOK yX6_count 1 := by unfold zOK; decide +kernel
theorem ok_X6_digest : zOK yX6_digest 0 := by unfold zOK; decide +kernel
theorem ok_X6_easiest : zOK yX6_easiest 1 := by unfold zOK; decide +kernel
theorem ok_X6_enough : zOK yX6_enough 1 := by unfold zOK; decide +kernel
theorem ok_X6_firstError : zOK yX6_firstError 0 := by unfold zOK; decide +kernel
theorem ok_X6_forget : zOK yX6_forget 1 := by unfold zOK; decide +kernel
theorem ok_X6_knows : zOK yX6_knows 2 := by unfold zOK; decide +kernel
theorem ok_X6_mail : zOK yX6_mail 2 := by unfold zOK; decide +kernel
theorem ok_X6_mailAll : zOK yX6_mailAll 2 := by unfold zOK; decide +kernel
theorem ok_X6_part : zOK yX6_part 2 := by unfold zOK; decide +kernel
theorem ok_X6_plot : zOK yX6_plot 2 := by unfold zOK; decide +kernel
theorem ok_X6_readShare : zOK yX6_readShare 0 := by unfold zOK; decide +kernel
theorem ok_X6_reader : zOK yX6_reader 2 := by unfold zOK; decide +kernel
theorem ok_X6_recap : zOK yX6_recap 3 := by unfold zOK; decide +kernel
theorem ok_X6_removeLast : zOK yX6_removeLast 0 := by unfold zOK; decide +kernel
theorem ok_X6_set : zOK yX6_set 2 := by unfold zOK; decide +kernel
theorem ok_X6_setting : zOK yX6_setting 1 := by unfold zOK; decide +kernel
theorem ok_X6_undo : zOK yX6_undo 0 := by unfold zOK; decide +kernel
theorem kb_100 : (Int8.ofInt 100).toInt32 = 100 := by decide
theorem kb_103 : (Int8.ofInt 103).toInt32 = 103 := by decide
theorem kb_11 : (Int8.ofInt 11).toInt32 = 11 := by decide
theorem kb_12 : (Int8.ofInt 12).toInt32 = 12 := by decide
theorem kb_127 : (Int8.ofInt 127).toInt32 = 127 := by decide
theorem kb_13 : (Int8.ofInt 13).toInt32 = 13 := by decide
theorem kb_14 : (Int8.ofInt 14).toInt32 = 14 := by decide
theorem kb_15 : (Int8.ofInt 15).toInt32 = 15 := by decide
theorem kb_17 : (Int8.ofInt 17).toInt32 = 17 := by decide
theorem kb_18 : (Int8.ofInt 18).toInt32 = 18 := by decide
theorem kb_21 : (Int8.ofInt 21).toInt32 = 21 := by decide
theorem kb_22 : (Int8.ofInt 22).toInt32 = 22 := by decide
theorem kb_23 : (Int8.ofInt 23).toInt32 = 23 := by decide
theorem kb_25 : (Int8.ofInt 25).toInt32 = 25 := by decide
theorem kb_31 : (Int8.ofInt 31).toInt32 = 31 := by decide
theorem kb_32 : (Int8.ofInt 32).toInt32 = 32 := by decide
theorem kb_34 : (Int8.ofInt 34).toInt32 = 34 := by decide
theorem kb_39 : (Int8.ofInt 39).toInt32 = 39 := by decide
theorem kb_42 : (Int8.ofInt 42).toInt32 = 42 := by decide
theorem kb_56 : (Int8.ofInt 56).toInt32 = 56 := by decide
theorem kb_64 : (Int8.ofInt 64).toInt32 = 64 := by decide
theorem kb_7 : (Int8.ofInt 7).toInt32 = 7 := by decide
theorem kb_9 : (Int8.ofInt 9).toInt32 = 9 := by decide
theorem kb_m11 : (Int8.ofInt (-11)).toInt32 = (-11) := by decide
theorem kb_m12 : (Int8.ofInt (-12)).toInt32 = (-12) := by decide
theorem kb_m13 : (Int8.ofInt (-13)).toInt32 = (-13) := by decide
theorem kb_m2 : (Int8.ofInt (-2)).toInt32 = (-2) := by decide
theorem kh_143 : (Int16.ofInt 143).toInt32 = 143 := by decide
theorem kh_153 : (Int16.ofInt 153).toInt32 = 153 := by decide
theorem kh_347 : (Int16.ofInt 347).toInt32 = 347 := by decide
theorem kh_7919 : (Int16.ofInt 7919).toInt32 = 7919 := by decide
theorem ki_m8 : Int32.ofInt (-8) = (-8) := by decide
