theorem dX0_init_0 : decode cX0_init 0 = .ok (.aload_n 0, 1) := by decide +kernel
theorem dX0_init_1 : decode cX0_init 1 = .ok (.invokespecial 3, 3) := by decide +kernel
theorem dX0_init_4 : decode cX0_init 4 = .ok (.aload_n 0, 1) := by decide +kernel
theorem dX0_init_5 : decode cX0_init 5 = .ok (.bipush 6, 2) := by decide +kernel
theorem dX0_init_7 : decode cX0_init 7 = .ok (.newarray .int, 2) := by decide +kernel
theorem dX0_init_9 : decode cX0_init 9 = .ok (.putfield 9, 3) := by decide +kernel
theorem dX0_init_12 : decode cX0_init 12 = .ok (.aload_n 0, 1) := by decide +kernel
theorem dX0_init_13 : decode cX0_init 13 = .ok (.bipush 6, 2) := by decide +kernel
theorem dX0_init_15 : decode cX0_init 15 = .ok (.newarray .int, 2) := by decide +kernel
theorem dX0_init_17 : decode cX0_init 17 = .ok (.putfield 15, 3) := by decide +kernel
theorem dX0_init_20 : decode cX0_init 20 = .ok (.aload_n 0, 1) := by decide +kernel
theorem dX0_init_21 : decode cX0_init 21 = .ok (.bipush 6, 2) := by decide +kernel
theorem dX0_init_23 : decode cX0_init 23 = .ok (.newarray .int, 2) := by decide +kernel
theorem dX0_init_25 : decode cX0_init 25 = .ok (.putfield 18, 3) := by decide +kernel
theorem dX0_init_28 : decode cX0_init 28 = .ok (.aload_n 0, 1) := by decide +kernel
theorem dX0_init_29 : decode cX0_init 29 = .ok (.bipush 6, 2) := by decide +kernel
theorem dX0_init_31 : decode cX0_init 31 = .ok (.newarray .int, 2) := by decide +kernel
theorem dX0_init_33 : decode cX0_init 33 = .ok (.putfield 21, 3) := by decide +kernel
theorem dX0_init_36 : decode cX0_init 36 = .ok (.aload_n 0, 1) := by decide +kernel
theorem dX0_init_37 : decode cX0_init 37 = .ok (.bipush 6, 2) := by decide +kernel
theorem dX0_init_39 : decode cX0_init 39 = .ok (.newarray .int, 2) := by decide +kernel
theorem dX0_init_41 : decode cX0_init 41 = .ok (.putfield 24, 3) := by decide +kernel
theorem dX0_init_44 : decode cX0_init 44 = .ok (.return_, 1) := by decide +kernel
theorem dX0_copyFrom_0 : decode cX0_copyFrom 0 = .ok (.aload_n 1, 1) := by decide +kernel
theorem dX0_copyFrom_1 : decode cX0_copyFrom 1 = .ok (.getfield 9, 3) := by decide +kernel
theorem dX0_copyFrom_4 : decode cX0_copyFrom 4 = .ok (.iconst 0, 1) := by decide +kernel
theorem dX0_copyFrom_5 : decode cX0_copyFrom 5 = .ok (.aload_n 0, 1) := by decide +kernel
theorem dX0_copyFrom_6 : decode cX0_copyFrom 6 = .ok (.getfield 9, 3) := by decide +kernel
theorem dX0_copyFrom_9 : decode cX0_copyFrom 9 = .ok (.iconst 0, 1) := by decide +kernel
theorem dX0_copyFrom_10 : decode cX0_copyFrom 10 = .ok (.bipush 6, 2) := by decide +kernel
theorem dX0_copyFrom_12 : decode cX0_copyFrom 12 = .ok (.invokestatic 27, 3) := by decide +kernel
theorem dX0_copyFrom_15 : decode cX0_copyFrom 15 = .ok (.aload_n 1, 1) := by decide +kernel
theorem dX0_copyFrom_16 : decode cX0_copyFrom 16 = .ok (.getfield 15, 3) := by decide +kernel
theorem dX0_copyFrom_19 : decode cX0_copyFrom 19 = .ok (.iconst 0, 1) := by decide +kernel
theorem dX0_copyFrom_20 : decode cX0_copyFrom 20 = .ok (.aload_n 0, 1) := by decide +kernel
theorem dX0_copyFrom_21 : decode cX0_copyFrom 21 = .ok (.getfield 15, 3) := by decide +kernel
theorem dX0_copyFrom_24 : decode cX0_copyFrom 24 = .ok (.iconst 0, 1) := by decide +kernel
theorem dX0_copyFrom_25 : decode cX0_copyFrom 25 = .ok (.bipush 6, 2) := by decide +kernel
theorem dX0_copyFrom_27 : decode cX0_copyFrom 27 = .ok (.invokestatic 27, 3) := by decide +kernel
theorem dX0_copyFrom_30 : decode cX0_copyFrom 30 = .ok (.aload_n 1, 1) := by decide +kernel
theorem dX0_copyFrom_31 : decode cX0_copyFrom 31 = .ok (.getfield 18, 3) := by decide +kernel
theorem dX0_copyFrom_34 : decode cX0_copyFrom 34 = .ok (.iconst 0, 1) := by decide +kernel
theorem dX0_copyFrom_35 : decode cX0_copyFrom 35 = .ok (.aload_n 0, 1) := by decide +kernel
theorem dX0_copyFrom_36 : decode cX0_copyFrom 36 = .ok (.getfield 18, 3) := by decide +kernel
theorem dX0_copyFrom_39 : decode cX0_copyFrom 39 = .ok (.iconst 0, 1) := by decide +kernel
theorem dX0_copyFrom_40 : decode cX0_copyFrom 40 = .ok (.bipush 6, 2) := by decide +kernel
theorem dX0_copyFrom_42 : decode cX0_copyFrom 42 = .ok (.invokestatic 27, 3) := by decide +kernel
theorem dX0_copyFrom_45 : decode cX0_copyFrom 45 = .ok (.aload_n 1, 1) := by decide +kernel
theorem dX0_copyFrom_46 : decode cX0_copyFrom 46 = .ok (.getfield 21, 3) := by decide +kernel
theorem dX0_copyFrom_49 : decode cX0_copyFrom 49 = .ok (.iconst 0, 1) := by decide +kernel
theorem dX0_copyFrom_50 : decode cX0_copyFrom 50 = .ok (.aload_n 0, 1) := by decide +kernel
theorem dX0_copyFrom_51 : decode cX0_copyFrom 51 = .ok (.getfield 21, 3) := by decide +kernel
theorem dX0_copyFrom_54 : decode cX0_copyFrom 54 = .ok (.iconst 0, 1) := by decide +kernel
theorem dX0_copyFrom_55 : decode cX0_copyFrom 55 = .ok (.bipush 6, 2) := by decide +kernel
theorem dX0_copyFrom_57 : decode cX0_copyFrom 57 = .ok (.invokestatic 27, 3) := by decide +kernel
theorem dX0_copyFrom_60 : decode cX0_copyFrom 60 = .ok (.aload_n 1, 1) := by decide +kernel
theorem dX0_copyFrom_61 : decode cX0_copyFrom 61 = .ok (.getfield 24, 3) := by decide +kernel
theorem dX0_copyFrom_64 : decode cX0_copyFrom 64 = .ok (.iconst 0, 1) := by decide +kernel
theorem dX0_copyFrom_65 : decode cX0_copyFrom 65 = .ok (.aload_n 0, 1) := by decide +kernel
theorem dX0_copyFrom_66 : decode cX0_copyFrom 66 = .ok (.getfield 24, 3) := by decide +kernel
theorem dX0_copyFrom_69 : decode cX0_copyFrom 69 = .ok (.iconst 0, 1) := by decide +kernel
theorem dX0_copyFrom_70 : decode cX0_copyFrom 70 = .ok (.bipush 6, 2) := by decide +kernel
theorem dX0_copyFrom_72 : decode cX0_copyFrom 72 = .ok (.invokestatic 27, 3) := by decide +kernel
theorem dX0_copyFrom_75 : decode cX0_copyFrom 75 = .ok (.return_, 1) := by decide +kernel
theorem dX0_hasRead_0 : decode cX0_hasRead 0 = .ok (.aload_n 0, 1) := by decide +kernel
theorem dX0_hasRead_1 : decode cX0_hasRead 1 = .ok (.getfield 15, 3) := by decide +kernel
theorem dX0_hasRead_4 : decode cX0_hasRead 4 = .ok (.iload_n 1, 1) := by decide +kernel
theorem dX0_hasRead_5 : decode cX0_hasRead 5 = .ok (.iaload, 1) := by decide +kernel
theorem dX0_hasRead_6 : decode cX0_hasRead 6 = .ok (.iload_n 2, 1) := by decide +kernel
theorem dX0_hasRead_7 : decode cX0_hasRead 7 = .ok (.invokestatic 33, 3) := by decide +kernel
theorem dX0_hasRead_10 : decode cX0_hasRead 10 = .ok (.ireturn, 1) := by decide +kernel
theorem dX0_known_0 : decode cX0_known 0 = .ok (.aload_n 0, 1) := by decide +kernel
theorem dX0_known_1 : decode cX0_known 1 = .ok (.getfield 9, 3) := by decide +kernel
theorem dX0_known_4 : decode cX0_known 4 = .ok (.iload_n 1, 1) := by decide +kernel
theorem dX0_known_5 : decode cX0_known 5 = .ok (.iaload, 1) := by decide +kernel
theorem dX0_known_6 : decode cX0_known 6 = .ok (.aload_n 0, 1) := by decide +kernel
theorem dX0_known_7 : decode cX0_known 7 = .ok (.getfield 15, 3) := by decide +kernel
theorem dX0_known_10 : decode cX0_known 10 = .ok (.iload_n 1, 1) := by decide +kernel
theorem dX0_known_11 : decode cX0_known 11 = .ok (.iaload, 1) := by decide +kernel
theorem dX0_known_12 : decode cX0_known 12 = .ok (.ior, 1) := by decide +kernel
theorem dX0_known_13 : decode cX0_known 13 = .ok (.ireturn, 1) := by decide +kernel
theorem dX0_knowledge_0 : decode cX0_knowledge 0 = .ok (.aload_n 0, 1) := by decide +kernel
theorem dX0_knowledge_1 : decode cX0_knowledge 1 = .ok (.iload_n 1, 1) := by decide +kernel
theorem dX0_knowledge_2 : decode cX0_knowledge 2 = .ok (.iload_n 2, 1) := by decide +kernel
theorem dX0_knowledge_3 : decode cX0_knowledge 3 = .ok (.invokevirtual 37, 3) := by decide +kernel
theorem dX0_knowledge_6 : decode cX0_knowledge 6 = .ok (.ifCond .eq 5, 3) := by decide +kernel
theorem dX0_knowledge_9 : decode cX0_knowledge 9 = .ok (.iconst 2, 1) := by decide +kernel
theorem dX0_knowledge_10 : decode cX0_knowledge 10 = .ok (.ireturn, 1) := by decide +kernel
theorem dX0_knowledge_11 : decode cX0_knowledge 11 = .ok (.aload_n 0, 1) := by decide +kernel
theorem dX0_knowledge_12 : decode cX0_knowledge 12 = .ok (.getfield 9, 3) := by decide +kernel
theorem dX0_knowledge_15 : decode cX0_knowledge 15 = .ok (.iload_n 1, 1) := by decide +kernel
theorem dX0_knowledge_16 : decode cX0_knowledge 16 = .ok (.iaload, 1) := by decide +kernel
theorem dX0_knowledge_17 : decode cX0_knowledge 17 = .ok (.iload_n 2, 1) := by decide +kernel
theorem dX0_knowledge_18 : decode cX0_knowledge 18 = .ok (.invokestatic 33, 3) := by decide +kernel
theorem dX0_knowledge_21 : decode cX0_knowledge 21 = .ok (.ifCond .eq 7, 3) := by decide +kernel
theorem dX0_knowledge_24 : decode cX0_knowledge 24 = .ok (.iconst 1, 1) := by decide +kernel
theorem dX0_knowledge_25 : decode cX0_knowledge 25 = .ok (.goto 4, 3) := by decide +kernel
theorem dX0_knowledge_28 : decode cX0_knowledge 28 = .ok (.iconst 0, 1) := by decide +kernel
theorem dX0_knowledge_29 : decode cX0_knowledge 29 = .ok (.ireturn, 1) := by decide +kernel
theorem dX0_whoRead_0 : decode cX0_whoRead 0 = .ok (.iconst 0, 1) := by decide +kernel
theorem dX0_whoRead_1 : decode cX0_whoRead 1 = .ok (.istore_n 2, 1) := by decide +kernel
theorem dX0_whoRead_2 : decode cX0_whoRead 2 = .ok (.iconst 0, 1) := by decide +kernel
theorem dX0_whoRead_3 : decode cX0_whoRead 3 = .ok (.istore_n 3, 1) := by decide +kernel
theorem dX0_whoRead_4 : decode cX0_whoRead 4 = .ok (.iload_n 3, 1) := by decide +kernel
theorem dX0_whoRead_5 : decode cX0_whoRead 5 = .ok (.bipush 6, 2) := by decide +kernel
theorem dX0_whoRead_7 : decode cX0_whoRead 7 = .ok (.if_icmp .ge 24, 3) := by decide +kernel
theorem dX0_whoRead_10 : decode cX0_whoRead 10 = .ok (.aload_n 0, 1) := by decide +kernel
theorem dX0_whoRead_11 : decode cX0_whoRead 11 = .ok (.iload_n 3, 1) := by decide +kernel
theorem dX0_whoRead_12 : decode cX0_whoRead 12 = .ok (.iload_n 1, 1) := by decide +kernel
theorem dX0_whoRead_13 : decode cX0_whoRead 13 = .ok (.invokevirtual 37, 3) := by decide +kernel
theorem dX0_whoRead_16 : decode cX0_whoRead 16 = .ok (.ifCond .eq 9, 3) := by decide +kernel
theorem dX0_whoRead_19 : decode cX0_whoRead 19 = .ok (.iload_n 2, 1) := by decide +kernel
theorem dX0_whoRead_20 : decode cX0_whoRead 20 = .ok (.iconst 1, 1) := by decide +kernel
theorem dX0_whoRead_21 : decode cX0_whoRead 21 = .ok (.iload_n 3, 1) := by decide +kernel
theorem dX0_whoRead_22 : decode cX0_whoRead 22 = .ok (.ishl, 1) := by decide +kernel
theorem dX0_whoRead_23 : decode cX0_whoRead 23 = .ok (.ior, 1) := by decide +kernel
theorem dX0_whoRead_24 : decode cX0_whoRead 24 = .ok (.istore_n 2, 1) := by decide +kernel
theorem dX0_whoRead_25 : decode cX0_whoRead 25 = .ok (.iinc 3 1, 3) := by decide +kernel
theorem dX0_whoRead_28 : decode cX0_whoRead 28 = .ok (.goto (-24), 3) := by decide +kernel
theorem dX0_whoRead_31 : decode cX0_whoRead 31 = .ok (.iload_n 2, 1) := by decide +kernel
theorem dX0_whoRead_32 : decode cX0_whoRead 32 = .ok (.ireturn, 1) := by decide +kernel
theorem dX0_howManyKnowAll_0 : decode cX0_howManyKnowAll 0 = .ok (.iconst 0, 1) := by decide +kernel
theorem dX0_howManyKnowAll_1 : decode cX0_howManyKnowAll 1 = .ok (.istore_n 2, 1) := by decide +kernel
theorem dX0_howManyKnowAll_2 : decode cX0_howManyKnowAll 2 = .ok (.iconst 0, 1) := by decide +kernel
theorem dX0_howManyKnowAll_3 : decode cX0_howManyKnowAll 3 = .ok (.istore_n 3, 1) := by decide +kernel
theorem dX0_howManyKnowAll_4 : decode cX0_howManyKnowAll 4 = .ok (.iload_n 3, 1) := by decide +kernel
theorem dX0_howManyKnowAll_5 : decode cX0_howManyKnowAll 5 = .ok (.bipush 6, 2) := by decide +kernel
theorem dX0_howManyKnowAll_7 : decode cX0_howManyKnowAll 7 = .ok (.if_icmp .ge 21, 3) := by decide +kernel
theorem dX0_howManyKnowAll_10 : decode cX0_howManyKnowAll 10 = .ok (.aload_n 0, 1) := by decide +kernel
theorem dX0_howManyKnowAll_11 : decode cX0_howManyKnowAll 11 = .ok (.iload_n 3, 1) := by decide +kernel
theorem dX0_howManyKnowAll_12 : decode cX0_howManyKnowAll 12 = .ok (.invokevirtual 40, 3) := by decide +kernel
theorem dX0_howManyKnowAll_15 : decode cX0_howManyKnowAll 15 = .ok (.iload_n 1, 1) := by decide +kernel
theorem dX0_howManyKnowAll_16 : decode cX0_howManyKnowAll 16 = .ok (.if_icmp .ne 6, 3) := by decide +kernel
theorem dX0_howManyKnowAll_19 : decode cX0_howManyKnowAll 19 = .ok (.iinc 2 1, 3) := by decide +kernel
theorem dX0_howManyKnowAll_22 : decode cX0_howManyKnowAll 22 = .ok (.iinc 3 1, 3) := by decide +kernel
theorem dX0_howManyKnowAll_25 : decode cX0_howManyKnowAll 25 = .ok (.goto (-21), 3) := by decide +kernel
theorem dX0_howManyKnowAll_28 : decode cX0_howManyKnowAll 28 = .ok (.iload_n 2, 1) := by decide +kernel
theorem dX0_howManyKnowAll_29 : decode cX0_howManyKnowAll 29 = .ok (.ireturn, 1) := by decide +kernel
theorem dX0_sumOfWordsRead_0 : decode cX0_sumOfWordsRead 0 = .ok (.iconst 0, 1) := by decide +kernel
theorem dX0_sumOfWordsRead_1 : decode cX0_sumOfWordsRead 1 = .ok (.istore_n 1, 1) := by decide +kernel
theorem dX0_sumOfWordsRead_2 : decode cX0_sumOfWordsRead 2 = .ok (.iconst 0, 1) := by decide +kernel
theorem dX0_sumOfWordsRead_3 : decode cX0_sumOfWordsRead 3 = .ok (.istore_n 2, 1) := by decide +kernel
theorem dX0_sumOfWordsRead_4 : decode cX0_sumOfWordsRead 4 = .ok (.iload_n 2, 1) := by decide +kernel
theorem dX0_sumOfWordsRead_5 : decode cX0_sumOfWordsRead 5 = .ok (.bipush 6, 2) := by decide +kernel
theorem dX0_sumOfWordsRead_7 : decode cX0_sumOfWordsRead 7 = .ok (.if_icmp .ge 18, 3) := by decide +kernel
theorem dX0_sumOfWordsRead_10 : decode cX0_sumOfWordsRead 10 = .ok (.iload_n 1, 1) := by decide +kernel
theorem dX0_sumOfWordsRead_11 : decode cX0_sumOfWordsRead 11 = .ok (.aload_n 0, 1) := by decide +kernel
theorem dX0_sumOfWordsRead_12 : decode cX0_sumOfWordsRead 12 = .ok (.getfield 18, 3) := by decide +kernel
theorem dX0_sumOfWordsRead_15 : decode cX0_sumOfWordsRead 15 = .ok (.iload_n 2, 1) := by decide +kernel
theorem dX0_sumOfWordsRead_16 : decode cX0_sumOfWordsRead 16 = .ok (.iaload, 1) := by decide +kernel
theorem dX0_sumOfWordsRead_17 : decode cX0_sumOfWordsRead 17 = .ok (.iadd, 1) := by decide +kernel
theorem dX0_sumOfWordsRead_18 : decode cX0_sumOfWordsRead 18 = .ok (.istore_n 1, 1) := by decide +kernel
theorem dX0_sumOfWordsRead_19 : decode cX0_sumOfWordsRead 19 = .ok (.iinc 2 1, 3) := by decide +kernel
theorem dX0_sumOfWordsRead_22 : decode cX0_sumOfWordsRead 22 = .ok (.goto (-18), 3) := by decide +kernel
theorem dX0_sumOfWordsRead_25 : decode cX0_sumOfWordsRead 25 = .ok (.iload_n 1, 1) := by decide +kernel
theorem dX0_sumOfWordsRead_26 : decode cX0_sumOfWordsRead 26 = .ok (.ireturn, 1) := by decide +kernel
theorem dX0_sumOfRead_0 : decode cX0_sumOfRead 0 = .ok (.iconst 0, 1) := by decide +kernel
theorem dX0_sumOfRead_1 : decode cX0_sumOfRead 1 = .ok (.istore_n 1, 1) := by decide +kernel
theorem dX0_sumOfRead_2 : decode cX0_sumOfRead 2 = .ok (.iconst 0, 1) := by decide +kernel
theorem dX0_sumOfRead_3 : decode cX0_sumOfRead 3 = .ok (.istore_n 2, 1) := by decide +kernel
theorem dX0_sumOfRead_4 : decode cX0_sumOfRead 4 = .ok (.iload_n 2, 1) := by decide +kernel
theorem dX0_sumOfRead_5 : decode cX0_sumOfRead 5 = .ok (.bipush 6, 2) := by decide +kernel
theorem dX0_sumOfRead_7 : decode cX0_sumOfRead 7 = .ok (.if_icmp .ge 21, 3) := by decide +kernel
theorem dX0_sumOfRead_10 : decode cX0_sumOfRead 10 = .ok (.iload_n 1, 1) := by decide +kernel
theorem dX0_sumOfRead_11 : decode cX0_sumOfRead 11 = .ok (.aload_n 0, 1) := by decide +kernel
theorem dX0_sumOfRead_12 : decode cX0_sumOfRead 12 = .ok (.getfield 15, 3) := by decide +kernel
theorem dX0_sumOfRead_15 : decode cX0_sumOfRead 15 = .ok (.iload_n 2, 1) := by decide +kernel
theorem dX0_sumOfRead_16 : decode cX0_sumOfRead 16 = .ok (.iaload, 1) := by decide +kernel
theorem dX0_sumOfRead_17 : decode cX0_sumOfRead 17 = .ok (.invokestatic 44, 3) := by decide +kernel
theorem dX0_sumOfRead_20 : decode cX0_sumOfRead 20 = .ok (.iadd, 1) := by decide +kernel
theorem dX0_sumOfRead_21 : decode cX0_sumOfRead 21 = .ok (.istore_n 1, 1) := by decide +kernel
theorem dX0_sumOfRead_22 : decode cX0_sumOfRead 22 = .ok (.iinc 2 1, 3) := by decide +kernel
theorem dX0_sumOfRead_25 : decode cX0_sumOfRead 25 = .ok (.goto (-21), 3) := by decide +kernel
theorem dX0_sumOfRead_28 : decode cX0_sumOfRead 28 = .ok (.iload_n 1, 1) := by decide +kernel
theorem dX0_sumOfRead_29 : decode cX0_sumOfRead 29 = .ok (.ireturn, 1) := by decide +kernel
theorem dX0_dropTold_0 : decode cX0_dropTold 0 = .ok (.aload_n 0, 1) := by decide +kernel
theorem dX0_dropTold_1 : decode cX0_dropTold 1 = .ok (.getfield 9, 3) := by decide +kernel
theorem dX0_dropTold_4 : decode cX0_dropTold 4 = .ok (.iload_n 1, 1) := by decide +kernel
theorem dX0_dropTold_5 : decode cX0_dropTold 5 = .ok (.iaload, 1) := by decide +kernel
theorem dX0_dropTold_6 : decode cX0_dropTold 6 = .ok (.invokestatic 44, 3) := by decide +kernel
theorem dX0_dropTold_9 : decode cX0_dropTold 9 = .ok (.istore_n 2, 1) := by decide +kernel
theorem dX0_dropTold_10 : decode cX0_dropTold 10 = .ok (.aload_n 0, 1) := by decide +kernel
theorem dX0_dropTold_11 : decode cX0_dropTold 11 = .ok (.getfield 9, 3) := by decide +kernel
theorem dX0_dropTold_14 : decode cX0_dropTold 14 = .ok (.iload_n 1, 1) := by decide +kernel
theorem dX0_dropTold_15 : decode cX0_dropTold 15 = .ok (.iconst 0, 1) := by decide +kernel
theorem dX0_dropTold_16 : decode cX0_dropTold 16 = .ok (.iastore, 1) := by decide +kernel
theorem dX0_dropTold_17 : decode cX0_dropTold 17 = .ok (.iload_n 2, 1) := by decide +kernel
theorem dX0_dropTold_18 : decode cX0_dropTold 18 = .ok (.ireturn, 1) := by decide +kernel
theorem dX0_dropPart_0 : decode cX0_dropPart 0 = .ok (.iconst 1, 1) := by decide +kernel
theorem dX0_dropPart_1 : decode cX0_dropPart 1 = .ok (.iload_n 1, 1) := by decide +kernel
theorem dX0_dropPart_2 : decode cX0_dropPart 2 = .ok (.ishl, 1) := by decide +kernel
theorem dX0_dropPart_3 : decode cX0_dropPart 3 = .ok (.iconst (-1), 1) := by decide +kernel
theorem dX0_dropPart_4 : decode cX0_dropPart 4 = .ok (.ixor, 1) := by decide +kernel
theorem dX0_dropPart_5 : decode cX0_dropPart 5 = .ok (.istore_n 2, 1) := by decide +kernel
theorem dX0_dropPart_6 : decode cX0_dropPart 6 = .ok (.iconst 0, 1) := by decide +kernel
theorem dX0_dropPart_7 : decode cX0_dropPart 7 = .ok (.istore_n 3, 1) := by decide +kernel
theorem dX0_dropPart_8 : decode cX0_dropPart 8 = .ok (.iload_n 3, 1) := by decide +kernel
theorem dX0_dropPart_9 : decode cX0_dropPart 9 = .ok (.bipush 6, 2) := by decide +kernel
theorem dX0_dropPart_11 : decode cX0_dropPart 11 = .ok (.if_icmp .ge 29, 3) := by decide +kernel
theorem dX0_dropPart_14 : decode cX0_dropPart 14 = .ok (.aload_n 0, 1) := by decide +kernel
theorem dX0_dropPart_15 : decode cX0_dropPart 15 = .ok (.getfield 9, 3) := by decide +kernel
theorem dX0_dropPart_18 : decode cX0_dropPart 18 = .ok (.iload_n 3, 1) := by decide +kernel
theorem dX0_dropPart_19 : decode cX0_dropPart 19 = .ok (.dup2, 1) := by decide +kernel
theorem dX0_dropPart_20 : decode cX0_dropPart 20 = .ok (.iaload, 1) := by decide +kernel
theorem dX0_dropPart_21 : decode cX0_dropPart 21 = .ok (.iload_n 2, 1) := by decide +kernel
theorem dX0_dropPart_22 : decode cX0_dropPart 22 = .ok (.iand, 1) := by decide +kernel
theorem dX0_dropPart_23 : decode cX0_dropPart 23 = .ok (.iastore, 1) := by decide +kernel
theorem dX0_dropPart_24 : decode cX0_dropPart 24 = .ok (.aload_n 0, 1) := by decide +kernel
theorem dX0_dropPart_25 : decode cX0_dropPart 25 = .ok (.getfield 15, 3) := by decide +kernel
theorem dX0_dropPart_28 : decode cX0_dropPart 28 = .ok (.iload_n 3, 1) := by decide +kernel
theorem dX0_dropPart_29 : decode cX0_dropPart 29 = .ok (.dup2, 1) := by decide +kernel
theorem dX0_dropPart_30 : decode cX0_dropPart 30 = .ok (.iaload, 1) := by decide +kernel
theorem dX0_dropPart_31 : decode cX0_dropPart 31 = .ok (.iload_n 2, 1) := by decide +kernel
theorem dX0_dropPart_32 : decode cX0_dropPart 32 = .ok (.iand, 1) := by decide +kernel
theorem dX0_dropPart_33 : decode cX0_dropPart 33 = .ok (.iastore, 1) := by decide +kernel
theorem dX0_dropPart_34 : decode cX0_dropPart 34 = .ok (.iinc 3 1, 3) := by decide +kernel
theorem dX0_dropPart_37 : decode cX0_dropPart 37 = .ok (.goto (-29), 3) := by decide +kernel
theorem dX0_dropPart_40 : decode cX0_dropPart 40 = .ok (.return_, 1) := by decide +kernel
theorem dX0_takeIn_0 : decode cX0_takeIn 0 = .ok (.aload_n 0, 1) := by decide +kernel
theorem dX0_takeIn_1 : decode cX0_takeIn 1 = .ok (.getfield 15, 3) := by decide +kernel
theorem dX0_takeIn_4 : decode cX0_takeIn 4 = .ok (.iload_n 1, 1) := by decide +kernel
theorem dX0_takeIn_5 : decode cX0_takeIn 5 = .ok (.dup2, 1) := by decide +kernel
theorem dX0_takeIn_6 : decode cX0_takeIn 6 = .ok (.iaload, 1) := by decide +kernel
theorem dX0_takeIn_7 : decode cX0_takeIn 7 = .ok (.iconst 1, 1) := by decide +kernel
theorem dX0_takeIn_8 : decode cX0_takeIn 8 = .ok (.iload_n 2, 1) := by decide +kernel
theorem dX0_takeIn_9 : decode cX0_takeIn 9 = .ok (.ishl, 1) := by decide +kernel
theorem dX0_takeIn_10 : decode cX0_takeIn 10 = .ok (.ior, 1) := by decide +kernel
theorem dX0_takeIn_11 : decode cX0_takeIn 11 = .ok (.iastore, 1) := by decide +kernel
theorem dX0_takeIn_12 : decode cX0_takeIn 12 = .ok (.aload_n 0, 1) := by decide +kernel
theorem dX0_takeIn_13 : decode cX0_takeIn 13 = .ok (.getfield 9, 3) := by decide +kernel
theorem dX0_takeIn_16 : decode cX0_takeIn 16 = .ok (.iload_n 1, 1) := by decide +kernel
theorem dX0_takeIn_17 : decode cX0_takeIn 17 = .ok (.aload_n 0, 1) := by decide +kernel
theorem dX0_takeIn_18 : decode cX0_takeIn 18 = .ok (.getfield 9, 3) := by decide +kernel
theorem dX0_takeIn_21 : decode cX0_takeIn 21 = .ok (.iload_n 1, 1) := by decide +kernel
theorem dX0_takeIn_22 : decode cX0_takeIn 22 = .ok (.iaload, 1) := by decide +kernel
theorem dX0_takeIn_23 : decode cX0_takeIn 23 = .ok (.iload_n 3, 1) := by decide +kernel
theorem dX0_takeIn_24 : decode cX0_takeIn 24 = .ok (.ior, 1) := by decide +kernel
theorem dX0_takeIn_25 : decode cX0_takeIn 25 = .ok (.aload_n 0, 1) := by decide +kernel
theorem dX0_takeIn_26 : decode cX0_takeIn 26 = .ok (.getfield 15, 3) := by decide +kernel
theorem dX0_takeIn_29 : decode cX0_takeIn 29 = .ok (.iload_n 1, 1) := by decide +kernel
theorem dX0_takeIn_30 : decode cX0_takeIn 30 = .ok (.iaload, 1) := by decide +kernel
theorem dX0_takeIn_31 : decode cX0_takeIn 31 = .ok (.iconst (-1), 1) := by decide +kernel
theorem dX0_takeIn_32 : decode cX0_takeIn 32 = .ok (.ixor, 1) := by decide +kernel
theorem dX0_takeIn_33 : decode cX0_takeIn 33 = .ok (.iand, 1) := by decide +kernel
theorem dX0_takeIn_34 : decode cX0_takeIn 34 = .ok (.iastore, 1) := by decide +kernel
theorem dX0_takeIn_35 : decode cX0_takeIn 35 = .ok (.return_, 1) := by decide +kernel
theorem dX1_init_0 : decode cX1_init 0 = .ok (.aload_n 0, 1) := by decide +kernel
theorem dX1_init_1 : decode cX1_init 1 = .ok (.invokespecial 3, 3) := by decide +kernel
theorem dX1_init_4 : decode cX1_init 4 = .ok (.return_, 1) := by decide +kernel
theorem dX1_restart_0 : decode cX1_restart 0 = .ok (.aload_n 0, 1) := by decide +kernel
theorem dX1_restart_1 : decode cX1_restart 1 = .ok (.iconst 0, 1) := by decide +kernel
theorem dX1_restart_2 : decode cX1_restart 2 = .ok (.putfield 11, 3) := by decide +kernel
theorem dX1_restart_5 : decode cX1_restart 5 = .ok (.aload_n 0, 1) := by decide +kernel
theorem dX1_restart_6 : decode cX1_restart 6 = .ok (.iconst 0, 1) := by decide +kernel
theorem dX1_restart_7 : decode cX1_restart 7 = .ok (.putfield 15, 3) := by decide +kernel
theorem dX1_restart_10 : decode cX1_restart 10 = .ok (.aload_n 0, 1) := by decide +kernel
theorem dX1_restart_11 : decode cX1_restart 11 = .ok (.iconst (-1), 1) := by decide +kernel
theorem dX1_restart_12 : decode cX1_restart 12 = .ok (.putfield 18, 3) := by decide +kernel
theorem dX1_restart_15 : decode cX1_restart 15 = .ok (.aload_n 0, 1) := by decide +kernel
theorem dX1_restart_16 : decode cX1_restart 16 = .ok (.bipush 10, 2) := by decide +kernel
theorem dX1_restart_18 : decode cX1_restart 18 = .ok (.putfield 21, 3) := by decide +kernel
theorem dX1_restart_21 : decode cX1_restart 21 = .ok (.return_, 1) := by decide +kernel
theorem dX1_mayEnd_0 : decode cX1_mayEnd 0 = .ok (.aload_n 0, 1) := by decide +kernel
theorem dX1_mayEnd_1 : decode cX1_mayEnd 1 = .ok (.getfield 11, 3) := by decide +kernel
theorem dX1_mayEnd_4 : decode cX1_mayEnd 4 = .ok (.iconst 1, 1) := by decide +kernel
theorem dX1_mayEnd_5 : decode cX1_mayEnd 5 = .ok (.if_icmp .eq 28, 3) := by decide +kernel
theorem dX1_mayEnd_8 : decode cX1_mayEnd 8 = .ok (.aload_n 0, 1) := by decide +kernel
theorem dX1_mayEnd_9 : decode cX1_mayEnd 9 = .ok (.getfield 11, 3) := by decide +kernel
theorem dX1_mayEnd_12 : decode cX1_mayEnd 12 = .ok (.iconst 3, 1) := by decide +kernel
theorem dX1_mayEnd_13 : decode cX1_mayEnd 13 = .ok (.if_icmp .eq 20, 3) := by decide +kernel
theorem dX1_mayEnd_16 : decode cX1_mayEnd 16 = .ok (.aload_n 0, 1) := by decide +kernel
theorem dX1_mayEnd_17 : decode cX1_mayEnd 17 = .ok (.getfield 11, 3) := by decide +kernel
theorem dX1_mayEnd_20 : decode cX1_mayEnd 20 = .ok (.iconst 5, 1) := by decide +kernel
theorem dX1_mayEnd_21 : decode cX1_mayEnd 21 = .ok (.if_icmp .eq 12, 3) := by decide +kernel
theorem dX1_mayEnd_24 : decode cX1_mayEnd 24 = .ok (.aload_n 0, 1) := by decide +kernel
theorem dX1_mayEnd_25 : decode cX1_mayEnd 25 = .ok (.getfield 11, 3) := by decide +kernel
theorem dX1_mayEnd_28 : decode cX1_mayEnd 28 = .ok (.bipush 6, 2) := by decide +kernel
theorem dX1_mayEnd_30 : decode cX1_mayEnd 30 = .ok (.if_icmp .ne 7, 3) := by decide +kernel
theorem dX1_mayEnd_33 : decode cX1_mayEnd 33 = .ok (.iconst 1, 1) := by decide +kernel
theorem dX1_mayEnd_34 : decode cX1_mayEnd 34 = .ok (.goto 4, 3) := by decide +kernel
theorem dX1_mayEnd_37 : decode cX1_mayEnd 37 = .ok (.iconst 0, 1) := by decide +kernel
theorem dX1_mayEnd_38 : decode cX1_mayEnd 38 = .ok (.ireturn, 1) := by decide +kernel
theorem dX1_takes_0 : decode cX1_takes 0 = .ok (.aload_n 0, 1) := by decide +kernel
theorem dX1_takes_1 : decode cX1_takes 1 = .ok (.getfield 11, 3) := by decide +kernel
theorem dX1_takes_4 : decode cX1_takes 4 = .ok (.tableswitch 174 0 5 #[40, 46, 90, 96, 121, 143], 40) := by decide +kernel
theorem dX1_takes_44 : decode cX1_takes 44 = .ok (.aload_n 0, 1) := by decide +kernel
theorem dX1_takes_45 : decode cX1_takes 45 = .ok (.iload_n 1, 1) := by decide +kernel
theorem dX1_takes_46 : decode cX1_takes 46 = .ok (.invokevirtual 24, 3) := by decide +kernel
theorem dX1_takes_49 : decode cX1_takes 49 = .ok (.ireturn, 1) := by decide +kernel
theorem dX1_takes_50 : decode cX1_takes 50 = .ok (.aload_n 0, 1) := by decide +kernel
theorem dX1_takes_51 : decode cX1_takes 51 = .ok (.iload_n 1, 1) := by decide +kernel
theorem dX1_takes_52 : decode cX1_takes 52 = .ok (.invokevirtual 24, 3) := by decide +kernel
theorem dX1_takes_55 : decode cX1_takes 55 = .ok (.ifCond .ne 33, 3) := by decide +kernel
theorem dX1_takes_58 : decode cX1_takes 58 = .ok (.aload_n 0, 1) := by decide +kernel
theorem dX1_takes_59 : decode cX1_takes 59 = .ok (.iload_n 1, 1) := by decide +kernel
theorem dX1_takes_60 : decode cX1_takes 60 = .ok (.bipush 33, 2) := by decide +kernel
theorem dX1_takes_62 : decode cX1_takes 62 = .ok (.iconst 2, 1) := by decide +kernel
theorem dX1_takes_63 : decode cX1_takes 63 = .ok (.invokevirtual 28, 3) := by decide +kernel
theorem dX1_takes_66 : decode cX1_takes 66 = .ok (.ifCond .ne 22, 3) := by decide +kernel
theorem dX1_takes_69 : decode cX1_takes 69 = .ok (.aload_n 0, 1) := by decide +kernel
theorem dX1_takes_70 : decode cX1_takes 70 = .ok (.iload_n 1, 1) := by decide +kernel
theorem dX1_takes_71 : decode cX1_takes 71 = .ok (.bipush 119, 2) := by decide +kernel
theorem dX1_takes_73 : decode cX1_takes 73 = .ok (.iconst 4, 1) := by decide +kernel
theorem dX1_takes_74 : decode cX1_takes 74 = .ok (.invokevirtual 28, 3) := by decide +kernel
theorem dX1_takes_77 : decode cX1_takes 77 = .ok (.ifCond .ne 11, 3) := by decide +kernel
theorem dX1_takes_80 : decode cX1_takes 80 = .ok (.aload_n 0, 1) := by decide +kernel
theorem dX1_takes_81 : decode cX1_takes 81 = .ok (.iload_n 1, 1) := by decide +kernel
theorem dX1_takes_82 : decode cX1_takes 82 = .ok (.invokevirtual 32, 3) := by decide +kernel
theorem dX1_takes_85 : decode cX1_takes 85 = .ok (.ifCond .eq 7, 3) := by decide +kernel
theorem dX1_takes_88 : decode cX1_takes 88 = .ok (.iconst 1, 1) := by decide +kernel
theorem dX1_takes_89 : decode cX1_takes 89 = .ok (.goto 4, 3) := by decide +kernel
theorem dX1_takes_92 : decode cX1_takes 92 = .ok (.iconst 0, 1) := by decide +kernel
theorem dX1_takes_93 : decode cX1_takes 93 = .ok (.ireturn, 1) := by decide +kernel
theorem dX1_takes_94 : decode cX1_takes 94 = .ok (.aload_n 0, 1) := by decide +kernel
theorem dX1_takes_95 : decode cX1_takes 95 = .ok (.iload_n 1, 1) := by decide +kernel
theorem dX1_takes_96 : decode cX1_takes 96 = .ok (.invokevirtual 35, 3) := by decide +kernel
theorem dX1_takes_99 : decode cX1_takes 99 = .ok (.ireturn, 1) := by decide +kernel
theorem dX1_takes_100 : decode cX1_takes 100 = .ok (.aload_n 0, 1) := by decide +kernel
theorem dX1_takes_101 : decode cX1_takes 101 = .ok (.iload_n 1, 1) := by decide +kernel
theorem dX1_takes_102 : decode cX1_takes 102 = .ok (.bipush 119, 2) := by decide +kernel
theorem dX1_takes_104 : decode cX1_takes 104 = .ok (.iconst 4, 1) := by decide +kernel
theorem dX1_takes_105 : decode cX1_takes 105 = .ok (.invokevirtual 28, 3) := by decide +kernel
theorem dX1_takes_108 : decode cX1_takes 108 = .ok (.ifCond .ne 11, 3) := by decide +kernel
theorem dX1_takes_111 : decode cX1_takes 111 = .ok (.aload_n 0, 1) := by decide +kernel
theorem dX1_takes_112 : decode cX1_takes 112 = .ok (.iload_n 1, 1) := by decide +kernel
theorem dX1_takes_113 : decode cX1_takes 113 = .ok (.invokevirtual 32, 3) := by decide +kernel
theorem dX1_takes_116 : decode cX1_takes 116 = .ok (.ifCond .eq 7, 3) := by decide +kernel
theorem dX1_takes_119 : decode cX1_takes 119 = .ok (.iconst 1, 1) := by decide +kernel
theorem dX1_takes_120 : decode cX1_takes 120 = .ok (.goto 4, 3) := by decide +kernel
theorem dX1_takes_123 : decode cX1_takes 123 = .ok (.iconst 0, 1) := by decide +kernel
theorem dX1_takes_124 : decode cX1_takes 124 = .ok (.ireturn, 1) := by decide +kernel
theorem dX1_takes_125 : decode cX1_takes 125 = .ok (.iload_n 1, 1) := by decide +kernel
theorem dX1_takes_126 : decode cX1_takes 126 = .ok (.bipush 48, 2) := by decide +kernel
theorem dX1_takes_128 : decode cX1_takes 128 = .ok (.if_icmp .eq 17, 3) := by decide +kernel
theorem dX1_takes_131 : decode cX1_takes 131 = .ok (.aload_n 0, 1) := by decide +kernel
theorem dX1_takes_132 : decode cX1_takes 132 = .ok (.iload_n 1, 1) := by decide +kernel
theorem dX1_takes_133 : decode cX1_takes 133 = .ok (.iconst 0, 1) := by decide +kernel
theorem dX1_takes_134 : decode cX1_takes 134 = .ok (.iconst 5, 1) := by decide +kernel
theorem dX1_takes_135 : decode cX1_takes 135 = .ok (.invokevirtual 38, 3) := by decide +kernel
theorem dX1_takes_138 : decode cX1_takes 138 = .ok (.ifCond .eq 7, 3) := by decide +kernel
theorem dX1_takes_141 : decode cX1_takes 141 = .ok (.iconst 1, 1) := by decide +kernel
theorem dX1_takes_142 : decode cX1_takes 142 = .ok (.goto 4, 3) := by decide +kernel
theorem dX1_takes_145 : decode cX1_takes 145 = .ok (.iconst 0, 1) := by decide +kernel
theorem dX1_takes_146 : decode cX1_takes 146 = .ok (.ireturn, 1) := by decide +kernel
theorem dX1_takes_147 : decode cX1_takes 147 = .ok (.aload_n 0, 1) := by decide +kernel
theorem dX1_takes_148 : decode cX1_takes 148 = .ok (.iload_n 1, 1) := by decide +kernel
theorem dX1_takes_149 : decode cX1_takes 149 = .ok (.aload_n 0, 1) := by decide +kernel
theorem dX1_takes_150 : decode cX1_takes 150 = .ok (.getfield 21, 3) := by decide +kernel
theorem dX1_takes_153 : decode cX1_takes 153 = .ok (.bipush 10, 2) := by decide +kernel
theorem dX1_takes_155 : decode cX1_takes 155 = .ok (.imul, 1) := by decide +kernel
theorem dX1_takes_156 : decode cX1_takes 156 = .ok (.bipush 6, 2) := by decide +kernel
theorem dX1_takes_158 : decode cX1_takes 158 = .ok (.invokevirtual 38, 3) := by decide +kernel
theorem dX1_takes_161 : decode cX1_takes 161 = .ok (.ifCond .ne 11, 3) := by decide +kernel
theorem dX1_takes_164 : decode cX1_takes 164 = .ok (.aload_n 0, 1) := by decide +kernel
theorem dX1_takes_165 : decode cX1_takes 165 = .ok (.iload_n 1, 1) := by decide +kernel
theorem dX1_takes_166 : decode cX1_takes 166 = .ok (.invokevirtual 32, 3) := by decide +kernel
theorem dX1_takes_169 : decode cX1_takes 169 = .ok (.ifCond .eq 7, 3) := by decide +kernel
theorem dX1_takes_172 : decode cX1_takes 172 = .ok (.iconst 1, 1) := by decide +kernel
theorem dX1_takes_173 : decode cX1_takes 173 = .ok (.goto 4, 3) := by decide +kernel
theorem dX1_takes_176 : decode cX1_takes 176 = .ok (.iconst 0, 1) := by decide +kernel
theorem dX1_takes_177 : decode cX1_takes 177 = .ok (.ireturn, 1) := by decide +kernel
theorem dX1_takes_178 : decode cX1_takes 178 = .ok (.aload_n 0, 1) := by decide +kernel
theorem dX1_takes_179 : decode cX1_takes 179 = .ok (.iload_n 1, 1) := by decide +kernel
theorem dX1_takes_180 : decode cX1_takes 180 = .ok (.invokevirtual 32, 3) := by decide +kernel
theorem dX1_takes_183 : decode cX1_takes 183 = .ok (.ireturn, 1) := by decide +kernel
theorem dX1_takesPlot_0 : decode cX1_takesPlot 0 = .ok (.iload_n 1, 1) := by decide +kernel
theorem dX1_takesPlot_1 : decode cX1_takesPlot 1 = .ok (.bipush 48, 2) := by decide +kernel
theorem dX1_takesPlot_3 : decode cX1_takesPlot 3 = .ok (.isub, 1) := by decide +kernel
theorem dX1_takesPlot_4 : decode cX1_takesPlot 4 = .ok (.istore_n 2, 1) := by decide +kernel
theorem dX1_takesPlot_5 : decode cX1_takesPlot 5 = .ok (.iload_n 2, 1) := by decide +kernel
theorem dX1_takesPlot_6 : decode cX1_takesPlot 6 = .ok (.ifCond .lt 18, 3) := by decide +kernel
theorem dX1_takesPlot_9 : decode cX1_takesPlot 9 = .ok (.iload_n 2, 1) := by decide +kernel
theorem dX1_takesPlot_10 : decode cX1_takesPlot 10 = .ok (.bipush 6, 2) := by decide +kernel
theorem dX1_takesPlot_12 : decode cX1_takesPlot 12 = .ok (.if_icmp .ge 12, 3) := by decide +kernel
theorem dX1_takesPlot_15 : decode cX1_takesPlot 15 = .ok (.aload_n 0, 1) := by decide +kernel
theorem dX1_takesPlot_16 : decode cX1_takesPlot 16 = .ok (.getfield 15, 3) := by decide +kernel
theorem dX1_takesPlot_19 : decode cX1_takesPlot 19 = .ok (.iload_n 2, 1) := by decide +kernel
theorem dX1_takesPlot_20 : decode cX1_takesPlot 20 = .ok (.ishr, 1) := by decide +kernel
theorem dX1_takesPlot_21 : decode cX1_takesPlot 21 = .ok (.ifCond .eq 5, 3) := by decide +kernel
theorem dX1_takesPlot_24 : decode cX1_takesPlot 24 = .ok (.iconst 0, 1) := by decide +kernel
theorem dX1_takesPlot_25 : decode cX1_takesPlot 25 = .ok (.ireturn, 1) := by decide +kernel
theorem dX1_takesPlot_26 : decode cX1_takesPlot 26 = .ok (.aload_n 0, 1) := by decide +kernel
theorem dX1_takesPlot_27 : decode cX1_takesPlot 27 = .ok (.dup, 1) := by decide +kernel
theorem dX1_takesPlot_28 : decode cX1_takesPlot 28 = .ok (.getfield 15, 3) := by decide +kernel
theorem dX1_takesPlot_31 : decode cX1_takesPlot 31 = .ok (.iconst 1, 1) := by decide +kernel
theorem dX1_takesPlot_32 : decode cX1_takesPlot 32 = .ok (.iload_n 2, 1) := by decide +kernel
theorem dX1_takesPlot_33 : decode cX1_takesPlot 33 = .ok (.ishl, 1) := by decide +kernel
theorem dX1_takesPlot_34 : decode cX1_takesPlot 34 = .ok (.ior, 1) := by decide +kernel
theorem dX1_takesPlot_35 : decode cX1_takesPlot 35 = .ok (.putfield 15, 3) := by decide +kernel
theorem dX1_takesPlot_38 : decode cX1_takesPlot 38 = .ok (.aload_n 0, 1) := by decide +kernel
theorem dX1_takesPlot_39 : decode cX1_takesPlot 39 = .ok (.iconst 1, 1) := by decide +kernel
theorem dX1_takesPlot_40 : decode cX1_takesPlot 40 = .ok (.putfield 11, 3) := by decide +kernel
theorem dX1_takesPlot_43 : decode cX1_takesPlot 43 = .ok (.iconst 1, 1) := by decide +kernel
theorem dX1_takesPlot_44 : decode cX1_takesPlot 44 = .ok (.ireturn, 1) := by decide +kernel
theorem dX1_takesCliff_0 : decode cX1_takesCliff 0 = .ok (.iload_n 1, 1) := by decide +kernel
theorem dX1_takesCliff_1 : decode cX1_takesCliff 1 = .ok (.bipush 48, 2) := by decide +kernel
theorem dX1_takesCliff_3 : decode cX1_takesCliff 3 = .ok (.isub, 1) := by decide +kernel
theorem dX1_takesCliff_4 : decode cX1_takesCliff 4 = .ok (.istore_n 2, 1) := by decide +kernel
theorem dX1_takesCliff_5 : decode cX1_takesCliff 5 = .ok (.iload_n 2, 1) := by decide +kernel
theorem dX1_takesCliff_6 : decode cX1_takesCliff 6 = .ok (.ifCond .lt 20, 3) := by decide +kernel
theorem dX1_takesCliff_9 : decode cX1_takesCliff 9 = .ok (.iload_n 2, 1) := by decide +kernel
theorem dX1_takesCliff_10 : decode cX1_takesCliff 10 = .ok (.bipush 6, 2) := by decide +kernel
theorem dX1_takesCliff_12 : decode cX1_takesCliff 12 = .ok (.if_icmp .ge 14, 3) := by decide +kernel
theorem dX1_takesCliff_15 : decode cX1_takesCliff 15 = .ok (.aload_n 0, 1) := by decide +kernel
theorem dX1_takesCliff_16 : decode cX1_takesCliff 16 = .ok (.getfield 15, 3) := by decide +kernel
theorem dX1_takesCliff_19 : decode cX1_takesCliff 19 = .ok (.iload_n 2, 1) := by decide +kernel
theorem dX1_takesCliff_20 : decode cX1_takesCliff 20 = .ok (.invokestatic 42, 3) := by decide +kernel
theorem dX1_takesCliff_23 : decode cX1_takesCliff 23 = .ok (.ifCond .ne 5, 3) := by decide +kernel
theorem dX1_takesCliff_26 : decode cX1_takesCliff 26 = .ok (.iconst 0, 1) := by decide +kernel
theorem dX1_takesCliff_27 : decode cX1_takesCliff 27 = .ok (.ireturn, 1) := by decide +kernel
theorem dX1_takesCliff_28 : decode cX1_takesCliff 28 = .ok (.aload_n 0, 1) := by decide +kernel
theorem dX1_takesCliff_29 : decode cX1_takesCliff 29 = .ok (.iload_n 2, 1) := by decide +kernel
theorem dX1_takesCliff_30 : decode cX1_takesCliff 30 = .ok (.putfield 18, 3) := by decide +kernel
theorem dX1_takesCliff_33 : decode cX1_takesCliff 33 = .ok (.aload_n 0, 1) := by decide +kernel
theorem dX1_takesCliff_34 : decode cX1_takesCliff 34 = .ok (.iconst 3, 1) := by decide +kernel
theorem dX1_takesCliff_35 : decode cX1_takesCliff 35 = .ok (.putfield 11, 3) := by decide +kernel
theorem dX1_takesCliff_38 : decode cX1_takesCliff 38 = .ok (.iconst 1, 1) := by decide +kernel
theorem dX1_takesCliff_39 : decode cX1_takesCliff 39 = .ok (.ireturn, 1) := by decide +kernel
theorem dX1_takesDigit_0 : decode cX1_takesDigit 0 = .ok (.iload_n 1, 1) := by decide +kernel
theorem dX1_takesDigit_1 : decode cX1_takesDigit 1 = .ok (.bipush 48, 2) := by decide +kernel
theorem dX1_takesDigit_3 : decode cX1_takesDigit 3 = .ok (.if_icmp .lt 9, 3) := by decide +kernel
theorem dX1_takesDigit_6 : decode cX1_takesDigit 6 = .ok (.iload_n 1, 1) := by decide +kernel
theorem dX1_takesDigit_7 : decode cX1_takesDigit 7 = .ok (.bipush 57, 2) := by decide +kernel
theorem dX1_takesDigit_9 : decode cX1_takesDigit 9 = .ok (.if_icmp .le 5, 3) := by decide +kernel
theorem dX1_takesDigit_12 : decode cX1_takesDigit 12 = .ok (.iconst 0, 1) := by decide +kernel
theorem dX1_takesDigit_13 : decode cX1_takesDigit 13 = .ok (.ireturn, 1) := by decide +kernel
theorem dX1_takesDigit_14 : decode cX1_takesDigit 14 = .ok (.aload_n 0, 1) := by decide +kernel
theorem dX1_takesDigit_15 : decode cX1_takesDigit 15 = .ok (.iload_n 2, 1) := by decide +kernel
theorem dX1_takesDigit_16 : decode cX1_takesDigit 16 = .ok (.iload_n 1, 1) := by decide +kernel
theorem dX1_takesDigit_17 : decode cX1_takesDigit 17 = .ok (.iadd, 1) := by decide +kernel
theorem dX1_takesDigit_18 : decode cX1_takesDigit 18 = .ok (.bipush 48, 2) := by decide +kernel
theorem dX1_takesDigit_20 : decode cX1_takesDigit 20 = .ok (.isub, 1) := by decide +kernel
theorem dX1_takesDigit_21 : decode cX1_takesDigit 21 = .ok (.putfield 21, 3) := by decide +kernel
theorem dX1_takesDigit_24 : decode cX1_takesDigit 24 = .ok (.aload_n 0, 1) := by decide +kernel
theorem dX1_takesDigit_25 : decode cX1_takesDigit 25 = .ok (.iload_n 3, 1) := by decide +kernel
theorem dX1_takesDigit_26 : decode cX1_takesDigit 26 = .ok (.putfield 11, 3) := by decide +kernel
theorem dX1_takesDigit_29 : decode cX1_takesDigit 29 = .ok (.iconst 1, 1) := by decide +kernel
theorem dX1_takesDigit_30 : decode cX1_takesDigit 30 = .ok (.ireturn, 1) := by decide +kernel
theorem dX1_takesSign_0 : decode cX1_takesSign 0 = .ok (.iload_n 1, 1) := by decide +kernel
theorem dX1_takesSign_1 : decode cX1_takesSign 1 = .ok (.iload_n 2, 1) := by decide +kernel
theorem dX1_takesSign_2 : decode cX1_takesSign 2 = .ok (.if_icmp .eq 5, 3) := by decide +kernel
theorem dX1_takesSign_5 : decode cX1_takesSign 5 = .ok (.iconst 0, 1) := by decide +kernel
theorem dX1_takesSign_6 : decode cX1_takesSign 6 = .ok (.ireturn, 1) := by decide +kernel
theorem dX1_takesSign_7 : decode cX1_takesSign 7 = .ok (.aload_n 0, 1) := by decide +kernel
theorem dX1_takesSign_8 : decode cX1_takesSign 8 = .ok (.iload_n 3, 1) := by decide +kernel
theorem dX1_takesSign_9 : decode cX1_takesSign 9 = .ok (.putfield 11, 3) := by decide +kernel
theorem dX1_takesSign_12 : decode cX1_takesSign 12 = .ok (.iconst 1, 1) := by decide +kernel
theorem dX1_takesSign_13 : decode cX1_takesSign 13 = .ok (.ireturn, 1) := by decide +kernel
theorem dX1_takesEnd_0 : decode cX1_takesEnd 0 = .ok (.iload_n 1, 1) := by decide +kernel
theorem dX1_takesEnd_1 : decode cX1_takesEnd 1 = .ok (.bipush 59, 2) := by decide +kernel
theorem dX1_takesEnd_3 : decode cX1_takesEnd 3 = .ok (.if_icmp .eq 5, 3) := by decide +kernel
theorem dX1_takesEnd_6 : decode cX1_takesEnd 6 = .ok (.iconst 0, 1) := by decide +kernel
theorem dX1_takesEnd_7 : decode cX1_takesEnd 7 = .ok (.ireturn, 1) := by decide +kernel
theorem dX1_takesEnd_8 : decode cX1_takesEnd 8 = .ok (.aload_n 0, 1) := by decide +kernel
theorem dX1_takesEnd_9 : decode cX1_takesEnd 9 = .ok (.invokevirtual 46, 3) := by decide +kernel
theorem dX1_takesEnd_12 : decode cX1_takesEnd 12 = .ok (.iconst 1, 1) := by decide +kernel
theorem dX1_takesEnd_13 : decode cX1_takesEnd 13 = .ok (.ireturn, 1) := by decide +kernel
theorem dX2_init_0 : decode cX2_init 0 = .ok (.aload_n 0, 1) := by decide +kernel
theorem dX2_init_1 : decode cX2_init 1 = .ok (.invokespecial 3, 3) := by decide +kernel
theorem dX2_init_4 : decode cX2_init 4 = .ok (.aload_n 0, 1) := by decide +kernel
theorem dX2_init_5 : decode cX2_init 5 = .ok (.bipush 6, 2) := by decide +kernel
theorem dX2_init_7 : decode cX2_init 7 = .ok (.anewarray 9, 3) := by decide +kernel
theorem dX2_init_10 : decode cX2_init 10 = .ok (.putfield 11, 3) := by decide +kernel
theorem dX2_init_13 : decode cX2_init 13 = .ok (.return_, 1) := by decide +kernel
theorem dX2_keep_0 : decode cX2_keep 0 = .ok (.aload_n 0, 1) := by decide +kernel
theorem dX2_keep_1 : decode cX2_keep 1 = .ok (.getfield 17, 3) := by decide +kernel
theorem dX2_keep_4 : decode cX2_keep 4 = .ok (.bipush 6, 2) := by decide +kernel
theorem dX2_keep_6 : decode cX2_keep 6 = .ok (.if_icmp .lt 26, 3) := by decide +kernel
theorem dX2_keep_9 : decode cX2_keep 9 = .ok (.aload_n 0, 1) := by decide +kernel
theorem dX2_keep_10 : decode cX2_keep 10 = .ok (.aload_n 0, 1) := by decide +kernel
theorem dX2_keep_11 : decode cX2_keep 11 = .ok (.getfield 21, 3) := by decide +kernel
theorem dX2_keep_14 : decode cX2_keep 14 = .ok (.iconst 1, 1) := by decide +kernel
theorem dX2_keep_15 : decode cX2_keep 15 = .ok (.iadd, 1) := by decide +kernel
theorem dX2_keep_16 : decode cX2_keep 16 = .ok (.bipush 6, 2) := by decide +kernel
theorem dX2_keep_18 : decode cX2_keep 18 = .ok (.irem, 1) := by decide +kernel
theorem dX2_keep_19 : decode cX2_keep 19 = .ok (.putfield 21, 3) := by decide +kernel
theorem dX2_keep_22 : decode cX2_keep 22 = .ok (.aload_n 0, 1) := by decide +kernel
theorem dX2_keep_23 : decode cX2_keep 23 = .ok (.dup, 1) := by decide +kernel
theorem dX2_keep_24 : decode cX2_keep 24 = .ok (.getfield 17, 3) := by decide +kernel
theorem dX2_keep_27 : decode cX2_keep 27 = .ok (.iconst 1, 1) := by decide +kernel
theorem dX2_keep_28 : decode cX2_keep 28 = .ok (.isub, 1) := by decide +kernel
theorem dX2_keep_29 : decode cX2_keep 29 = .ok (.putfield 17, 3) := by decide +kernel
theorem dX2_keep_32 : decode cX2_keep 32 = .ok (.aload_n 0, 1) := by decide +kernel
theorem dX2_keep_33 : decode cX2_keep 33 = .ok (.getfield 21, 3) := by decide +kernel
theorem dX2_keep_36 : decode cX2_keep 36 = .ok (.aload_n 0, 1) := by decide +kernel
theorem dX2_keep_37 : decode cX2_keep 37 = .ok (.getfield 17, 3) := by decide +kernel
theorem dX2_keep_40 : decode cX2_keep 40 = .ok (.iadd, 1) := by decide +kernel
theorem dX2_keep_41 : decode cX2_keep 41 = .ok (.bipush 6, 2) := by decide +kernel
theorem dX2_keep_43 : decode cX2_keep 43 = .ok (.irem, 1) := by decide +kernel
theorem dX2_keep_44 : decode cX2_keep 44 = .ok (.istore_n 2, 1) := by decide +kernel
theorem dX2_keep_45 : decode cX2_keep 45 = .ok (.aload_n 0, 1) := by decide +kernel
theorem dX2_keep_46 : decode cX2_keep 46 = .ok (.getfield 11, 3) := by decide +kernel
theorem dX2_keep_49 : decode cX2_keep 49 = .ok (.iload_n 2, 1) := by decide +kernel
theorem dX2_keep_50 : decode cX2_keep 50 = .ok (.aaload, 1) := by decide +kernel
theorem dX2_keep_51 : decode cX2_keep 51 = .ok (.astore_n 3, 1) := by decide +kernel
theorem dX2_keep_52 : decode cX2_keep 52 = .ok (.aload_n 3, 1) := by decide +kernel
theorem dX2_keep_53 : decode cX2_keep 53 = .ok (.ifnonnull 18, 3) := by decide +kernel
theorem dX2_keep_56 : decode cX2_keep 56 = .ok (.new 9, 3) := by decide +kernel
theorem dX2_keep_59 : decode cX2_keep 59 = .ok (.dup, 1) := by decide +kernel
theorem dX2_keep_60 : decode cX2_keep 60 = .ok (.invokespecial 24, 3) := by decide +kernel
theorem dX2_keep_63 : decode cX2_keep 63 = .ok (.astore_n 3, 1) := by decide +kernel
theorem dX2_keep_64 : decode cX2_keep 64 = .ok (.aload_n 0, 1) := by decide +kernel
theorem dX2_keep_65 : decode cX2_keep 65 = .ok (.getfield 11, 3) := by decide +kernel
theorem dX2_keep_68 : decode cX2_keep 68 = .ok (.iload_n 2, 1) := by decide +kernel
theorem dX2_keep_69 : decode cX2_keep 69 = .ok (.aload_n 3, 1) := by decide +kernel
theorem dX2_keep_70 : decode cX2_keep 70 = .ok (.aastore, 1) := by decide +kernel
theorem dX2_keep_71 : decode cX2_keep 71 = .ok (.aload_n 3, 1) := by decide +kernel
theorem dX2_keep_72 : decode cX2_keep 72 = .ok (.aload_n 1, 1) := by decide +kernel
theorem dX2_keep_73 : decode cX2_keep 73 = .ok (.invokevirtual 25, 3) := by decide +kernel
theorem dX2_keep_76 : decode cX2_keep 76 = .ok (.aload_n 0, 1) := by decide +kernel
theorem dX2_keep_77 : decode cX2_keep 77 = .ok (.dup, 1) := by decide +kernel
theorem dX2_keep_78 : decode cX2_keep 78 = .ok (.getfield 17, 3) := by decide +kernel
theorem dX2_keep_81 : decode cX2_keep 81 = .ok (.iconst 1, 1) := by decide +kernel
theorem dX2_keep_82 : decode cX2_keep 82 = .ok (.iadd, 1) := by decide +kernel
theorem dX2_keep_83 : decode cX2_keep 83 = .ok (.putfield 17, 3) := by decide +kernel
theorem dX2_keep_86 : decode cX2_keep 86 = .ok (.return_, 1) := by decide +kernel
theorem dX2_latest_0 : decode cX2_latest 0 = .ok (.aload_n 0, 1) := by decide +kernel
theorem dX2_latest_1 : decode cX2_latest 1 = .ok (.getfield 17, 3) := by decide +kernel
theorem dX2_latest_4 : decode cX2_latest 4 = .ok (.iconst 1, 1) := by decide +kernel
theorem dX2_latest_5 : decode cX2_latest 5 = .ok (.if_icmp .ge 5, 3) := by decide +kernel
theorem dX2_latest_8 : decode cX2_latest 8 = .ok (.aconst_null, 1) := by decide +kernel
theorem dX2_latest_9 : decode cX2_latest 9 = .ok (.areturn, 1) := by decide +kernel
theorem dX2_latest_10 : decode cX2_latest 10 = .ok (.aload_n 0, 1) := by decide +kernel
theorem dX2_latest_11 : decode cX2_latest 11 = .ok (.getfield 11, 3) := by decide +kernel
theorem dX2_latest_14 : decode cX2_latest 14 = .ok (.aload_n 0, 1) := by decide +kernel
theorem dX2_latest_15 : decode cX2_latest 15 = .ok (.getfield 21, 3) := by decide +kernel
theorem dX2_latest_18 : decode cX2_latest 18 = .ok (.aload_n 0, 1) := by decide +kernel
theorem dX2_latest_19 : decode cX2_latest 19 = .ok (.getfield 17, 3) := by decide +kernel
theorem dX2_latest_22 : decode cX2_latest 22 = .ok (.iadd, 1) := by decide +kernel
theorem dX2_latest_23 : decode cX2_latest 23 = .ok (.iconst 1, 1) := by decide +kernel
theorem dX2_latest_24 : decode cX2_latest 24 = .ok (.isub, 1) := by decide +kernel
theorem dX2_latest_25 : decode cX2_latest 25 = .ok (.bipush 6, 2) := by decide +kernel
theorem dX2_latest_27 : decode cX2_latest 27 = .ok (.irem, 1) := by decide +kernel
theorem dX2_latest_28 : decode cX2_latest 28 = .ok (.aaload, 1) := by decide +kernel
theorem dX2_latest_29 : decode cX2_latest 29 = .ok (.areturn, 1) := by decide +kernel
theorem dX2_dropLatest_0 : decode cX2_dropLatest 0 = .ok (.aload_n 0, 1) := by decide +kernel
theorem dX2_dropLatest_1 : decode cX2_dropLatest 1 = .ok (.dup, 1) := by decide +kernel
theorem dX2_dropLatest_2 : decode cX2_dropLatest 2 = .ok (.getfield 17, 3) := by decide +kernel
theorem dX2_dropLatest_5 : decode cX2_dropLatest 5 = .ok (.iconst 1, 1) := by decide +kernel
theorem dX2_dropLatest_6 : decode cX2_dropLatest 6 = .ok (.isub, 1) := by decide +kernel
theorem dX2_dropLatest_7 : decode cX2_dropLatest 7 = .ok (.putfield 17, 3) := by decide +kernel
theorem dX2_dropLatest_10 : decode cX2_dropLatest 10 = .ok (.return_, 1) := by decide +kernel
theorem dX3_init_0 : decode cX3_init 0 = .ok (.aload_n 0, 1) := by decide +kernel
theorem dX3_init_1 : decode cX3_init 1 = .ok (.invokespecial 3, 3) := by decide +kernel
theorem dX3_init_4 : decode cX3_init 4 = .ok (.aload_n 0, 1) := by decide +kernel
theorem dX3_init_5 : decode cX3_init 5 = .ok (.new 9, 3) := by decide +kernel
theorem dX3_init_8 : decode cX3_init 8 = .ok (.dup, 1) := by decide +kernel
theorem dX3_init_9 : decode cX3_init 9 = .ok (.invokespecial 11, 3) := by decide +kernel
theorem dX3_init_12 : decode cX3_init 12 = .ok (.putfield 12, 3) := by decide +kernel
theorem dX3_init_15 : decode cX3_init 15 = .ok (.aload_n 0, 1) := by decide +kernel
theorem dX3_init_16 : decode cX3_init 16 = .ok (.new 18, 3) := by decide +kernel
theorem dX3_init_19 : decode cX3_init 19 = .ok (.dup, 1) := by decide +kernel
theorem dX3_init_20 : decode cX3_init 20 = .ok (.invokespecial 20, 3) := by decide +kernel
theorem dX3_init_23 : decode cX3_init 23 = .ok (.putfield 21, 3) := by decide +kernel
theorem dX3_init_26 : decode cX3_init 26 = .ok (.aload_n 0, 1) := by decide +kernel
theorem dX3_init_27 : decode cX3_init 27 = .ok (.iconst 2, 1) := by decide +kernel
theorem dX3_init_28 : decode cX3_init 28 = .ok (.newarray .int, 2) := by decide +kernel
theorem dX3_init_30 : decode cX3_init 30 = .ok (.putfield 25, 3) := by decide +kernel
theorem dX3_init_33 : decode cX3_init 33 = .ok (.aload_n 0, 1) := by decide +kernel
theorem dX3_init_34 : decode cX3_init 34 = .ok (.getfield 25, 3) := by decide +kernel
theorem dX3_init_37 : decode cX3_init 37 = .ok (.iconst 0, 1) := by decide +kernel
theorem dX3_init_38 : decode cX3_init 38 = .ok (.iconst 4, 1) := by decide +kernel
theorem dX3_init_39 : decode cX3_init 39 = .ok (.iastore, 1) := by decide +kernel
theorem dX3_init_40 : decode cX3_init 40 = .ok (.aload_n 0, 1) := by decide +kernel
theorem dX3_init_41 : decode cX3_init 41 = .ok (.getfield 25, 3) := by decide +kernel
theorem dX3_init_44 : decode cX3_init 44 = .ok (.iconst 1, 1) := by decide +kernel
theorem dX3_init_45 : decode cX3_init 45 = .ok (.bipush 10, 2) := by decide +kernel
theorem dX3_init_47 : decode cX3_init 47 = .ok (.iastore, 1) := by decide +kernel
theorem dX3_init_48 : decode cX3_init 48 = .ok (.return_, 1) := by decide +kernel
theorem dX3_copyFrom_0 : decode cX3_copyFrom 0 = .ok (.aload_n 0, 1) := by decide +kernel
theorem dX3_copyFrom_1 : decode cX3_copyFrom 1 = .ok (.getfield 12, 3) := by decide +kernel
theorem dX3_copyFrom_4 : decode cX3_copyFrom 4 = .ok (.aload_n 1, 1) := by decide +kernel
theorem dX3_copyFrom_5 : decode cX3_copyFrom 5 = .ok (.getfield 12, 3) := by decide +kernel
theorem dX3_copyFrom_8 : decode cX3_copyFrom 8 = .ok (.invokevirtual 29, 3) := by decide +kernel
theorem dX3_copyFrom_11 : decode cX3_copyFrom 11 = .ok (.aload_n 0, 1) := by decide +kernel
theorem dX3_copyFrom_12 : decode cX3_copyFrom 12 = .ok (.getfield 21, 3) := by decide +kernel
theorem dX3_copyFrom_15 : decode cX3_copyFrom 15 = .ok (.aload_n 1, 1) := by decide +kernel
theorem dX3_copyFrom_16 : decode cX3_copyFrom 16 = .ok (.getfield 21, 3) := by decide +kernel
theorem dX3_copyFrom_19 : decode cX3_copyFrom 19 = .ok (.invokevirtual 33, 3) := by decide +kernel
theorem dX3_copyFrom_22 : decode cX3_copyFrom 22 = .ok (.aload_n 1, 1) := by decide +kernel
theorem dX3_copyFrom_23 : decode cX3_copyFrom 23 = .ok (.getfield 25, 3) := by decide +kernel
theorem dX3_copyFrom_26 : decode cX3_copyFrom 26 = .ok (.iconst 0, 1) := by decide +kernel
theorem dX3_copyFrom_27 : decode cX3_copyFrom 27 = .ok (.aload_n 0, 1) := by decide +kernel
theorem dX3_copyFrom_28 : decode cX3_copyFrom 28 = .ok (.getfield 25, 3) := by decide +kernel
theorem dX3_copyFrom_31 : decode cX3_copyFrom 31 = .ok (.iconst 0, 1) := by decide +kernel
theorem dX3_copyFrom_32 : decode cX3_copyFrom 32 = .ok (.iconst 2, 1) := by decide +kernel
theorem dX3_copyFrom_33 : decode cX3_copyFrom 33 = .ok (.invokestatic 36, 3) := by decide +kernel
theorem dX3_copyFrom_36 : decode cX3_copyFrom 36 = .ok (.aload_n 0, 1) := by decide +kernel
theorem dX3_copyFrom_37 : decode cX3_copyFrom 37 = .ok (.aload_n 1, 1) := by decide +kernel
theorem dX3_copyFrom_38 : decode cX3_copyFrom 38 = .ok (.getfield 42, 3) := by decide +kernel
theorem dX3_copyFrom_41 : decode cX3_copyFrom 41 = .ok (.putfield 42, 3) := by decide +kernel
theorem dX3_copyFrom_44 : decode cX3_copyFrom 44 = .ok (.aload_n 0, 1) := by decide +kernel
theorem dX3_copyFrom_45 : decode cX3_copyFrom 45 = .ok (.aload_n 1, 1) := by decide +kernel
theorem dX3_copyFrom_46 : decode cX3_copyFrom 46 = .ok (.getfield 46, 3) := by decide +kernel
theorem dX3_copyFrom_49 : decode cX3_copyFrom 49 = .ok (.putfield 46, 3) := by decide +kernel
theorem dX3_copyFrom_52 : decode cX3_copyFrom 52 = .ok (.return_, 1) := by decide +kernel
theorem dX3_missedParts_0 : decode cX3_missedParts 0 = .ok (.aload_n 0, 1) := by decide +kernel
theorem dX3_missedParts_1 : decode cX3_missedParts 1 = .ok (.getfield 12, 3) := by decide +kernel
theorem dX3_missedParts_4 : decode cX3_missedParts 4 = .ok (.iload_n 2, 1) := by decide +kernel
theorem dX3_missedParts_5 : decode cX3_missedParts 5 = .ok (.aload_n 0, 1) := by decide +kernel
theorem dX3_missedParts_6 : decode cX3_missedParts 6 = .ok (.getfield 21, 3) := by decide +kernel
theorem dX3_missedParts_9 : decode cX3_missedParts 9 = .ok (.iload_n 1, 1) := by decide +kernel
theorem dX3_missedParts_10 : decode cX3_missedParts 10 = .ok (.invokevirtual 49, 3) := by decide +kernel
theorem dX3_missedParts_13 : decode cX3_missedParts 13 = .ok (.iconst (-1), 1) := by decide +kernel
theorem dX3_missedParts_14 : decode cX3_missedParts 14 = .ok (.ixor, 1) := by decide +kernel
theorem dX3_missedParts_15 : decode cX3_missedParts 15 = .ok (.invokevirtual 53, 3) := by decide +kernel
theorem dX3_missedParts_18 : decode cX3_missedParts 18 = .ok (.ireturn, 1) := by decide +kernel
theorem dX3_toldParts_0 : decode cX3_toldParts 0 = .ok (.iload_n 1, 1) := by decide +kernel
theorem dX3_toldParts_1 : decode cX3_toldParts 1 = .ok (.istore_n 2, 1) := by decide +kernel
theorem dX3_toldParts_2 : decode cX3_toldParts 2 = .ok (.iload_n 1, 1) := by decide +kernel
theorem dX3_toldParts_3 : decode cX3_toldParts 3 = .ok (.invokestatic 57, 3) := by decide +kernel
theorem dX3_toldParts_6 : decode cX3_toldParts 6 = .ok (.aload_n 0, 1) := by decide +kernel
theorem dX3_toldParts_7 : decode cX3_toldParts 7 = .ok (.getfield 25, 3) := by decide +kernel
theorem dX3_toldParts_10 : decode cX3_toldParts 10 = .ok (.iconst 0, 1) := by decide +kernel
theorem dX3_toldParts_11 : decode cX3_toldParts 11 = .ok (.iaload, 1) := by decide +kernel
theorem dX3_toldParts_12 : decode cX3_toldParts 12 = .ok (.isub, 1) := by decide +kernel
theorem dX3_toldParts_13 : decode cX3_toldParts 13 = .ok (.istore_n 3, 1) := by decide +kernel
theorem dX3_toldParts_14 : decode cX3_toldParts 14 = .ok (.iconst 0, 1) := by decide +kernel
theorem dX3_toldParts_15 : decode cX3_toldParts 15 = .ok (.istore 4, 2) := by decide +kernel
theorem dX3_toldParts_17 : decode cX3_toldParts 17 = .ok (.iload 4, 2) := by decide +kernel
theorem dX3_toldParts_19 : decode cX3_toldParts 19 = .ok (.iload_n 3, 1) := by decide +kernel
theorem dX3_toldParts_20 : decode cX3_toldParts 20 = .ok (.if_icmp .ge 15, 3) := by decide +kernel
theorem dX3_toldParts_23 : decode cX3_toldParts 23 = .ok (.iload_n 2, 1) := by decide +kernel
theorem dX3_toldParts_24 : decode cX3_toldParts 24 = .ok (.iload_n 2, 1) := by decide +kernel
theorem dX3_toldParts_25 : decode cX3_toldParts 25 = .ok (.iconst 1, 1) := by decide +kernel
theorem dX3_toldParts_26 : decode cX3_toldParts 26 = .ok (.isub, 1) := by decide +kernel
theorem dX3_toldParts_27 : decode cX3_toldParts 27 = .ok (.iand, 1) := by decide +kernel
theorem dX3_toldParts_28 : decode cX3_toldParts 28 = .ok (.istore_n 2, 1) := by decide +kernel
theorem dX3_toldParts_29 : decode cX3_toldParts 29 = .ok (.iinc 4 1, 3) := by decide +kernel
theorem dX3_toldParts_32 : decode cX3_toldParts 32 = .ok (.goto (-15), 3) := by decide +kernel
theorem dX3_toldParts_35 : decode cX3_toldParts 35 = .ok (.iload_n 2, 1) := by decide +kernel
theorem dX3_toldParts_36 : decode cX3_toldParts 36 = .ok (.ireturn, 1) := by decide +kernel
theorem dX3_lineWords_0 : decode cX3_lineWords 0 = .ok (.iconst 0, 1) := by decide +kernel
theorem dX3_lineWords_1 : decode cX3_lineWords 1 = .ok (.istore_n 2, 1) := by decide +kernel
theorem dX3_lineWords_2 : decode cX3_lineWords 2 = .ok (.iconst 0, 1) := by decide +kernel
theorem dX3_lineWords_3 : decode cX3_lineWords 3 = .ok (.istore_n 3, 1) := by decide +kernel
theorem dX3_lineWords_4 : decode cX3_lineWords 4 = .ok (.iload_n 3, 1) := by decide +kernel
theorem dX3_lineWords_5 : decode cX3_lineWords 5 = .ok (.aload_n 0, 1) := by decide +kernel
theorem dX3_lineWords_6 : decode cX3_lineWords 6 = .ok (.getfield 12, 3) := by decide +kernel
theorem dX3_lineWords_9 : decode cX3_lineWords 9 = .ok (.getfield 62, 3) := by decide +kernel
theorem dX3_lineWords_12 : decode cX3_lineWords 12 = .ok (.if_icmp .ge 33, 3) := by decide +kernel
theorem dX3_lineWords_15 : decode cX3_lineWords 15 = .ok (.iload_n 1, 1) := by decide +kernel
theorem dX3_lineWords_16 : decode cX3_lineWords 16 = .ok (.iload_n 3, 1) := by decide +kernel
theorem dX3_lineWords_17 : decode cX3_lineWords 17 = .ok (.invokestatic 65, 3) := by decide +kernel
theorem dX3_lineWords_20 : decode cX3_lineWords 20 = .ok (.ifCond .eq 19, 3) := by decide +kernel
theorem dX3_lineWords_23 : decode cX3_lineWords 23 = .ok (.iload_n 2, 1) := by decide +kernel
theorem dX3_lineWords_24 : decode cX3_lineWords 24 = .ok (.aload_n 0, 1) := by decide +kernel
theorem dX3_lineWords_25 : decode cX3_lineWords 25 = .ok (.aload_n 0, 1) := by decide +kernel
theorem dX3_lineWords_26 : decode cX3_lineWords 26 = .ok (.getfield 12, 3) := by decide +kernel
theorem dX3_lineWords_29 : decode cX3_lineWords 29 = .ok (.getfield 69, 3) := by decide +kernel
theorem dX3_lineWords_32 : decode cX3_lineWords 32 = .ok (.iload_n 3, 1) := by decide +kernel
theorem dX3_lineWords_33 : decode cX3_lineWords 33 = .ok (.iaload, 1) := by decide +kernel
theorem dX3_lineWords_34 : decode cX3_lineWords 34 = .ok (.invokevirtual 72, 3) := by decide +kernel
theorem dX3_lineWords_37 : decode cX3_lineWords 37 = .ok (.iadd, 1) := by decide +kernel
theorem dX3_lineWords_38 : decode cX3_lineWords 38 = .ok (.istore_n 2, 1) := by decide +kernel
theorem dX3_lineWords_39 : decode cX3_lineWords 39 = .ok (.iinc 3 1, 3) := by decide +kernel
theorem dX3_lineWords_42 : decode cX3_lineWords 42 = .ok (.goto (-38), 3) := by decide +kernel
theorem dX3_lineWords_45 : decode cX3_lineWords 45 = .ok (.iload_n 2, 1) := by decide +kernel
theorem dX3_lineWords_46 : decode cX3_lineWords 46 = .ok (.ireturn, 1) := by decide +kernel
theorem dX3_shortened_0 : decode cX3_shortened 0 = .ok (.aload_n 0, 1) := by decide +kernel
theorem dX3_shortened_1 : decode cX3_shortened 1 = .ok (.getfield 25, 3) := by decide +kernel
theorem dX3_shortened_4 : decode cX3_shortened 4 = .ok (.iconst 1, 1) := by decide +kernel
theorem dX3_shortened_5 : decode cX3_shortened 5 = .ok (.iaload, 1) := by decide +kernel
theorem dX3_shortened_6 : decode cX3_shortened 6 = .ok (.istore_n 2, 1) := by decide +kernel
theorem dX3_shortened_7 : decode cX3_shortened 7 = .ok (.iload_n 2, 1) := by decide +kernel
theorem dX3_shortened_8 : decode cX3_shortened 8 = .ok (.iconst 1, 1) := by decide +kernel
theorem dX3_shortened_9 : decode cX3_shortened 9 = .ok (.if_icmp .ge 5, 3) := by decide +kernel
theorem dX3_shortened_12 : decode cX3_shortened 12 = .ok (.iload_n 1, 1) := by decide +kernel
theorem dX3_shortened_13 : decode cX3_shortened 13 = .ok (.ireturn, 1) := by decide +kernel
theorem dX3_shortened_14 : decode cX3_shortened 14 = .ok (.iload_n 1, 1) := by decide +kernel
theorem dX3_shortened_15 : decode cX3_shortened 15 = .ok (.iload_n 2, 1) := by decide +kernel
theorem dX3_shortened_16 : decode cX3_shortened 16 = .ok (.iadd, 1) := by decide +kernel
theorem dX3_shortened_17 : decode cX3_shortened 17 = .ok (.iconst 1, 1) := by decide +kernel
theorem dX3_shortened_18 : decode cX3_shortened 18 = .ok (.isub, 1) := by decide +kernel
theorem dX3_shortened_19 : decode cX3_shortened 19 = .ok (.iload_n 2, 1) := by decide +kernel
theorem dX3_shortened_20 : decode cX3_shortened 20 = .ok (.idiv, 1) := by decide +kernel
theorem dX3_shortened_21 : decode cX3_shortened 21 = .ok (.ireturn, 1) := by decide +kernel
theorem dX3_ofRecap_0 : decode cX3_ofRecap 0 = .ok (.aload_n 0, 1) := by decide +kernel
theorem dX3_ofRecap_1 : decode cX3_ofRecap 1 = .ok (.iload_n 1, 1) := by decide +kernel
theorem dX3_ofRecap_2 : decode cX3_ofRecap 2 = .ok (.iload_n 2, 1) := by decide +kernel
theorem dX3_ofRecap_3 : decode cX3_ofRecap 3 = .ok (.invokevirtual 75, 3) := by decide +kernel
theorem dX3_ofRecap_6 : decode cX3_ofRecap 6 = .ok (.istore 4, 2) := by decide +kernel
theorem dX3_ofRecap_8 : decode cX3_ofRecap 8 = .ok (.aload_n 0, 1) := by decide +kernel
theorem dX3_ofRecap_9 : decode cX3_ofRecap 9 = .ok (.iload 4, 2) := by decide +kernel
theorem dX3_ofRecap_11 : decode cX3_ofRecap 11 = .ok (.invokevirtual 78, 3) := by decide +kernel
theorem dX3_ofRecap_14 : decode cX3_ofRecap 14 = .ok (.istore 5, 2) := by decide +kernel
theorem dX3_ofRecap_16 : decode cX3_ofRecap 16 = .ok (.iload_n 3, 1) := by decide +kernel
theorem dX3_ofRecap_17 : decode cX3_ofRecap 17 = .ok (.tableswitch 59 0 3 #[31, 37, 44, 47], 31) := by decide +kernel
theorem dX3_ofRecap_48 : decode cX3_ofRecap 48 = .ok (.iload 5, 2) := by decide +kernel
theorem dX3_ofRecap_50 : decode cX3_ofRecap 50 = .ok (.invokestatic 57, 3) := by decide +kernel
theorem dX3_ofRecap_53 : decode cX3_ofRecap 53 = .ok (.ireturn, 1) := by decide +kernel
theorem dX3_ofRecap_54 : decode cX3_ofRecap 54 = .ok (.aload_n 0, 1) := by decide +kernel
theorem dX3_ofRecap_55 : decode cX3_ofRecap 55 = .ok (.iload 5, 2) := by decide +kernel
theorem dX3_ofRecap_57 : decode cX3_ofRecap 57 = .ok (.invokevirtual 81, 3) := by decide +kernel
theorem dX3_ofRecap_60 : decode cX3_ofRecap 60 = .ok (.ireturn, 1) := by decide +kernel
theorem dX3_ofRecap_61 : decode cX3_ofRecap 61 = .ok (.iload 5, 2) := by decide +kernel
theorem dX3_ofRecap_63 : decode cX3_ofRecap 63 = .ok (.ireturn, 1) := by decide +kernel
theorem dX3_ofRecap_64 : decode cX3_ofRecap 64 = .ok (.iload 4, 2) := by decide +kernel
theorem dX3_ofRecap_66 : decode cX3_ofRecap 66 = .ok (.invokestatic 57, 3) := by decide +kernel
theorem dX3_ofRecap_69 : decode cX3_ofRecap 69 = .ok (.iload 5, 2) := by decide +kernel
theorem dX3_ofRecap_71 : decode cX3_ofRecap 71 = .ok (.invokestatic 57, 3) := by decide +kernel
theorem dX3_ofRecap_74 : decode cX3_ofRecap 74 = .ok (.isub, 1) := by decide +kernel
theorem dX3_ofRecap_75 : decode cX3_ofRecap 75 = .ok (.ireturn, 1) := by decide +kernel
theorem dX3_ofRecap_76 : decode cX3_ofRecap 76 = .ok (.aload_n 0, 1) := by decide +kernel
theorem dX3_ofRecap_77 : decode cX3_ofRecap 77 = .ok (.getfield 12, 3) := by decide +kernel
theorem dX3_ofRecap_80 : decode cX3_ofRecap 80 = .ok (.getfield 69, 3) := by decide +kernel
theorem dX3_ofRecap_83 : decode cX3_ofRecap 83 = .ok (.iload_n 2, 1) := by decide +kernel
theorem dX3_ofRecap_84 : decode cX3_ofRecap 84 = .ok (.iaload, 1) := by decide +kernel
theorem dX3_ofRecap_85 : decode cX3_ofRecap 85 = .ok (.aload_n 0, 1) := by decide +kernel
theorem dX3_ofRecap_86 : decode cX3_ofRecap 86 = .ok (.iload 5, 2) := by decide +kernel
theorem dX3_ofRecap_88 : decode cX3_ofRecap 88 = .ok (.invokevirtual 81, 3) := by decide +kernel
theorem dX3_ofRecap_91 : decode cX3_ofRecap 91 = .ok (.iadd, 1) := by decide +kernel
theorem dX3_ofRecap_92 : decode cX3_ofRecap 92 = .ok (.ireturn, 1) := by decide +kernel
theorem dX3_deliver_0 : decode cX3_deliver 0 = .ok (.aload_n 0, 1) := by decide +kernel
theorem dX3_deliver_1 : decode cX3_deliver 1 = .ok (.iload_n 1, 1) := by decide +kernel
theorem dX3_deliver_2 : decode cX3_deliver 2 = .ok (.iload_n 2, 1) := by decide +kernel
theorem dX3_deliver_3 : decode cX3_deliver 3 = .ok (.invokevirtual 75, 3) := by decide +kernel
theorem dX3_deliver_6 : decode cX3_deliver 6 = .ok (.istore_n 3, 1) := by decide +kernel
theorem dX3_deliver_7 : decode cX3_deliver 7 = .ok (.aload_n 0, 1) := by decide +kernel
theorem dX3_deliver_8 : decode cX3_deliver 8 = .ok (.iload_n 3, 1) := by decide +kernel
theorem dX3_deliver_9 : decode cX3_deliver 9 = .ok (.invokevirtual 78, 3) := by decide +kernel
theorem dX3_deliver_12 : decode cX3_deliver 12 = .ok (.istore 4, 2) := by decide +kernel
theorem dX3_deliver_14 : decode cX3_deliver 14 = .ok (.iload 4, 2) := by decide +kernel
theorem dX3_deliver_16 : decode cX3_deliver 16 = .ok (.invokestatic 57, 3) := by decide +kernel
theorem dX3_deliver_19 : decode cX3_deliver 19 = .ok (.istore 5, 2) := by decide +kernel
theorem dX3_deliver_21 : decode cX3_deliver 21 = .ok (.aload_n 0, 1) := by decide +kernel
theorem dX3_deliver_22 : decode cX3_deliver 22 = .ok (.getfield 21, 3) := by decide +kernel
theorem dX3_deliver_25 : decode cX3_deliver 25 = .ok (.iload_n 1, 1) := by decide +kernel
theorem dX3_deliver_26 : decode cX3_deliver 26 = .ok (.iload_n 2, 1) := by decide +kernel
theorem dX3_deliver_27 : decode cX3_deliver 27 = .ok (.iload 4, 2) := by decide +kernel
theorem dX3_deliver_29 : decode cX3_deliver 29 = .ok (.invokevirtual 84, 3) := by decide +kernel
theorem dX3_deliver_32 : decode cX3_deliver 32 = .ok (.aload_n 0, 1) := by decide +kernel
theorem dX3_deliver_33 : decode cX3_deliver 33 = .ok (.getfield 21, 3) := by decide +kernel
theorem dX3_deliver_36 : decode cX3_deliver 36 = .ok (.getfield 88, 3) := by decide +kernel
theorem dX3_deliver_39 : decode cX3_deliver 39 = .ok (.iload_n 1, 1) := by decide +kernel
theorem dX3_deliver_40 : decode cX3_deliver 40 = .ok (.dup2, 1) := by decide +kernel
theorem dX3_deliver_41 : decode cX3_deliver 41 = .ok (.iaload, 1) := by decide +kernel
theorem dX3_deliver_42 : decode cX3_deliver 42 = .ok (.aload_n 0, 1) := by decide +kernel
theorem dX3_deliver_43 : decode cX3_deliver 43 = .ok (.getfield 12, 3) := by decide +kernel
theorem dX3_deliver_46 : decode cX3_deliver 46 = .ok (.getfield 69, 3) := by decide +kernel
theorem dX3_deliver_49 : decode cX3_deliver 49 = .ok (.iload_n 2, 1) := by decide +kernel
theorem dX3_deliver_50 : decode cX3_deliver 50 = .ok (.iaload, 1) := by decide +kernel
theorem dX3_deliver_51 : decode cX3_deliver 51 = .ok (.aload_n 0, 1) := by decide +kernel
theorem dX3_deliver_52 : decode cX3_deliver 52 = .ok (.iload 4, 2) := by decide +kernel
theorem dX3_deliver_54 : decode cX3_deliver 54 = .ok (.invokevirtual 81, 3) := by decide +kernel
theorem dX3_deliver_57 : decode cX3_deliver 57 = .ok (.iadd, 1) := by decide +kernel
theorem dX3_deliver_58 : decode cX3_deliver 58 = .ok (.iadd, 1) := by decide +kernel
theorem dX3_deliver_59 : decode cX3_deliver 59 = .ok (.iastore, 1) := by decide +kernel
theorem dX3_deliver_60 : decode cX3_deliver 60 = .ok (.aload_n 0, 1) := by decide +kernel
theorem dX3_deliver_61 : decode cX3_deliver 61 = .ok (.getfield 21, 3) := by decide +kernel
theorem dX3_deliver_64 : decode cX3_deliver 64 = .ok (.getfield 91, 3) := by decide +kernel
theorem dX3_deliver_67 : decode cX3_deliver 67 = .ok (.iload_n 1, 1) := by decide +kernel
theorem dX3_deliver_68 : decode cX3_deliver 68 = .ok (.dup2, 1) := by decide +kernel
theorem dX3_deliver_69 : decode cX3_deliver 69 = .ok (.iaload, 1) := by decide +kernel
theorem dX3_deliver_70 : decode cX3_deliver 70 = .ok (.iload 5, 2) := by decide +kernel
theorem dX3_deliver_72 : decode cX3_deliver 72 = .ok (.iadd, 1) := by decide +kernel
theorem dX3_deliver_73 : decode cX3_deliver 73 = .ok (.iastore, 1) := by decide +kernel
theorem dX3_deliver_74 : decode cX3_deliver 74 = .ok (.aload_n 0, 1) := by decide +kernel
theorem dX3_deliver_75 : decode cX3_deliver 75 = .ok (.getfield 21, 3) := by decide +kernel
theorem dX3_deliver_78 : decode cX3_deliver 78 = .ok (.getfield 94, 3) := by decide +kernel
theorem dX3_deliver_81 : decode cX3_deliver 81 = .ok (.iload_n 1, 1) := by decide +kernel
theorem dX3_deliver_82 : decode cX3_deliver 82 = .ok (.dup2, 1) := by decide +kernel
theorem dX3_deliver_83 : decode cX3_deliver 83 = .ok (.iaload, 1) := by decide +kernel
theorem dX3_deliver_84 : decode cX3_deliver 84 = .ok (.iload_n 3, 1) := by decide +kernel
theorem dX3_deliver_85 : decode cX3_deliver 85 = .ok (.invokestatic 57, 3) := by decide +kernel
theorem dX3_deliver_88 : decode cX3_deliver 88 = .ok (.iload 5, 2) := by decide +kernel
theorem dX3_deliver_90 : decode cX3_deliver 90 = .ok (.isub, 1) := by decide +kernel
theorem dX3_deliver_91 : decode cX3_deliver 91 = .ok (.iadd, 1) := by decide +kernel
theorem dX3_deliver_92 : decode cX3_deliver 92 = .ok (.iastore, 1) := by decide +kernel
theorem dX3_deliver_93 : decode cX3_deliver 93 = .ok (.aload_n 0, 1) := by decide +kernel
theorem dX3_deliver_94 : decode cX3_deliver 94 = .ok (.dup, 1) := by decide +kernel
theorem dX3_deliver_95 : decode cX3_deliver 95 = .ok (.getfield 42, 3) := by decide +kernel
theorem dX3_deliver_98 : decode cX3_deliver 98 = .ok (.iconst 1, 1) := by decide +kernel
theorem dX3_deliver_99 : decode cX3_deliver 99 = .ok (.iadd, 1) := by decide +kernel
theorem dX3_deliver_100 : decode cX3_deliver 100 = .ok (.putfield 42, 3) := by decide +kernel
theorem dX3_deliver_103 : decode cX3_deliver 103 = .ok (.iload 5, 2) := by decide +kernel
theorem dX3_deliver_105 : decode cX3_deliver 105 = .ok (.ireturn, 1) := by decide +kernel
theorem dX3_deliverToAll_0 : decode cX3_deliverToAll 0 = .ok (.iconst 0, 1) := by decide +kernel
theorem dX3_deliverToAll_1 : decode cX3_deliverToAll 1 = .ok (.istore_n 3, 1) := by decide +kernel
theorem dX3_deliverToAll_2 : decode cX3_deliverToAll 2 = .ok (.iconst 0, 1) := by decide +kernel
theorem dX3_deliverToAll_3 : decode cX3_deliverToAll 3 = .ok (.istore 4, 2) := by decide +kernel
theorem dX3_deliverToAll_5 : decode cX3_deliverToAll 5 = .ok (.iload 4, 2) := by decide +kernel
theorem dX3_deliverToAll_7 : decode cX3_deliverToAll 7 = .ok (.bipush 6, 2) := by decide +kernel
theorem dX3_deliverToAll_9 : decode cX3_deliverToAll 9 = .ok (.if_icmp .ge 55, 3) := by decide +kernel
theorem dX3_deliverToAll_12 : decode cX3_deliverToAll 12 = .ok (.aload_n 0, 1) := by decide +kernel
theorem dX3_deliverToAll_13 : decode cX3_deliverToAll 13 = .ok (.getfield 21, 3) := by decide +kernel
theorem dX3_deliverToAll_16 : decode cX3_deliverToAll 16 = .ok (.iload 4, 2) := by decide +kernel
theorem dX3_deliverToAll_18 : decode cX3_deliverToAll 18 = .ok (.iload_n 1, 1) := by decide +kernel
theorem dX3_deliverToAll_19 : decode cX3_deliverToAll 19 = .ok (.invokevirtual 97, 3) := by decide +kernel
theorem dX3_deliverToAll_22 : decode cX3_deliverToAll 22 = .ok (.ifCond .ne 36, 3) := by decide +kernel
theorem dX3_deliverToAll_25 : decode cX3_deliverToAll 25 = .ok (.iload_n 2, 1) := by decide +kernel
theorem dX3_deliverToAll_26 : decode cX3_deliverToAll 26 = .ok (.iload 4, 2) := by decide +kernel
theorem dX3_deliverToAll_28 : decode cX3_deliverToAll 28 = .ok (.invokestatic 65, 3) := by decide +kernel
theorem dX3_deliverToAll_31 : decode cX3_deliverToAll 31 = .ok (.ifCond .eq 16, 3) := by decide +kernel
theorem dX3_deliverToAll_34 : decode cX3_deliverToAll 34 = .ok (.aload_n 0, 1) := by decide +kernel
theorem dX3_deliverToAll_35 : decode cX3_deliverToAll 35 = .ok (.dup, 1) := by decide +kernel
theorem dX3_deliverToAll_36 : decode cX3_deliverToAll 36 = .ok (.getfield 46, 3) := by decide +kernel
theorem dX3_deliverToAll_39 : decode cX3_deliverToAll 39 = .ok (.iconst 1, 1) := by decide +kernel
theorem dX3_deliverToAll_40 : decode cX3_deliverToAll 40 = .ok (.iadd, 1) := by decide +kernel
theorem dX3_deliverToAll_41 : decode cX3_deliverToAll 41 = .ok (.putfield 46, 3) := by decide +kernel
theorem dX3_deliverToAll_44 : decode cX3_deliverToAll 44 = .ok (.goto 14, 3) := by decide +kernel
theorem dX3_deliverToAll_47 : decode cX3_deliverToAll 47 = .ok (.aload_n 0, 1) := by decide +kernel
theorem dX3_deliverToAll_48 : decode cX3_deliverToAll 48 = .ok (.iload 4, 2) := by decide +kernel
theorem dX3_deliverToAll_50 : decode cX3_deliverToAll 50 = .ok (.iload_n 1, 1) := by decide +kernel
theorem dX3_deliverToAll_51 : decode cX3_deliverToAll 51 = .ok (.invokevirtual 100, 3) := by decide +kernel
theorem dX3_deliverToAll_54 : decode cX3_deliverToAll 54 = .ok (.pop, 1) := by decide +kernel
theorem dX3_deliverToAll_55 : decode cX3_deliverToAll 55 = .ok (.iinc 3 1, 3) := by decide +kernel
theorem dX3_deliverToAll_58 : decode cX3_deliverToAll 58 = .ok (.iinc 4 1, 3) := by decide +kernel
theorem dX3_deliverToAll_61 : decode cX3_deliverToAll 61 = .ok (.goto (-56), 3) := by decide +kernel
theorem dX3_deliverToAll_64 : decode cX3_deliverToAll 64 = .ok (.iload_n 3, 1) := by decide +kernel
theorem dX3_deliverToAll_65 : decode cX3_deliverToAll 65 = .ok (.ireturn, 1) := by decide +kernel
theorem dX3_deliverUnread_0 : decode cX3_deliverUnread 0 = .ok (.aload_n 0, 1) := by decide +kernel
theorem dX3_deliverUnread_1 : decode cX3_deliverUnread 1 = .ok (.getfield 21, 3) := by decide +kernel
theorem dX3_deliverUnread_4 : decode cX3_deliverUnread 4 = .ok (.getfield 88, 3) := by decide +kernel
theorem dX3_deliverUnread_7 : decode cX3_deliverUnread 7 = .ok (.iload_n 1, 1) := by decide +kernel
theorem dX3_deliverUnread_8 : decode cX3_deliverUnread 8 = .ok (.iaload, 1) := by decide +kernel
theorem dX3_deliverUnread_9 : decode cX3_deliverUnread 9 = .ok (.istore_n 2, 1) := by decide +kernel
theorem dX3_deliverUnread_10 : decode cX3_deliverUnread 10 = .ok (.iconst 0, 1) := by decide +kernel
theorem dX3_deliverUnread_11 : decode cX3_deliverUnread 11 = .ok (.istore_n 3, 1) := by decide +kernel
theorem dX3_deliverUnread_12 : decode cX3_deliverUnread 12 = .ok (.iload_n 3, 1) := by decide +kernel
theorem dX3_deliverUnread_13 : decode cX3_deliverUnread 13 = .ok (.aload_n 0, 1) := by decide +kernel
theorem dX3_deliverUnread_14 : decode cX3_deliverUnread 14 = .ok (.getfield 12, 3) := by decide +kernel
theorem dX3_deliverUnread_17 : decode cX3_deliverUnread 17 = .ok (.getfield 62, 3) := by decide +kernel
theorem dX3_deliverUnread_20 : decode cX3_deliverUnread 20 = .ok (.if_icmp .ge 28, 3) := by decide +kernel
theorem dX3_deliverUnread_23 : decode cX3_deliverUnread 23 = .ok (.aload_n 0, 1) := by decide +kernel
theorem dX3_deliverUnread_24 : decode cX3_deliverUnread 24 = .ok (.getfield 21, 3) := by decide +kernel
theorem dX3_deliverUnread_27 : decode cX3_deliverUnread 27 = .ok (.iload_n 1, 1) := by decide +kernel
theorem dX3_deliverUnread_28 : decode cX3_deliverUnread 28 = .ok (.iload_n 3, 1) := by decide +kernel
theorem dX3_deliverUnread_29 : decode cX3_deliverUnread 29 = .ok (.invokevirtual 97, 3) := by decide +kernel
theorem dX3_deliverUnread_32 : decode cX3_deliverUnread 32 = .ok (.ifCond .ne 10, 3) := by decide +kernel
theorem dX3_deliverUnread_35 : decode cX3_deliverUnread 35 = .ok (.aload_n 0, 1) := by decide +kernel
theorem dX3_deliverUnread_36 : decode cX3_deliverUnread 36 = .ok (.iload_n 1, 1) := by decide +kernel
theorem dX3_deliverUnread_37 : decode cX3_deliverUnread 37 = .ok (.iload_n 3, 1) := by decide +kernel
theorem dX3_deliverUnread_38 : decode cX3_deliverUnread 38 = .ok (.invokevirtual 100, 3) := by decide +kernel
theorem dX3_deliverUnread_41 : decode cX3_deliverUnread 41 = .ok (.pop, 1) := by decide +kernel
theorem dX3_deliverUnread_42 : decode cX3_deliverUnread 42 = .ok (.iinc 3 1, 3) := by decide +kernel
theorem dX3_deliverUnread_45 : decode cX3_deliverUnread 45 = .ok (.goto (-33), 3) := by decide +kernel
theorem dX3_deliverUnread_48 : decode cX3_deliverUnread 48 = .ok (.aload_n 0, 1) := by decide +kernel
theorem dX3_deliverUnread_49 : decode cX3_deliverUnread 49 = .ok (.getfield 21, 3) := by decide +kernel
theorem dX3_deliverUnread_52 : decode cX3_deliverUnread 52 = .ok (.getfield 88, 3) := by decide +kernel
theorem dX3_deliverUnread_55 : decode cX3_deliverUnread 55 = .ok (.iload_n 1, 1) := by decide +kernel
theorem dX3_deliverUnread_56 : decode cX3_deliverUnread 56 = .ok (.iaload, 1) := by decide +kernel
theorem dX3_deliverUnread_57 : decode cX3_deliverUnread 57 = .ok (.iload_n 2, 1) := by decide +kernel
theorem dX3_deliverUnread_58 : decode cX3_deliverUnread 58 = .ok (.isub, 1) := by decide +kernel
theorem dX3_deliverUnread_59 : decode cX3_deliverUnread 59 = .ok (.ireturn, 1) := by decide +kernel
theorem dX3_ofPart_0 : decode cX3_ofPart 0 = .ok (.iload_n 2, 1) := by decide +kernel
theorem dX3_ofPart_1 : decode cX3_ofPart 1 = .ok (.tableswitch 97 0 5 #[39, 49, 59, 69, 79, 88], 39) := by decide +kernel
theorem dX3_ofPart_40 : decode cX3_ofPart 40 = .ok (.aload_n 0, 1) := by decide +kernel
theorem dX3_ofPart_41 : decode cX3_ofPart 41 = .ok (.getfield 12, 3) := by decide +kernel
theorem dX3_ofPart_44 : decode cX3_ofPart 44 = .ok (.getfield 103, 3) := by decide +kernel
theorem dX3_ofPart_47 : decode cX3_ofPart 47 = .ok (.iload_n 1, 1) := by decide +kernel
theorem dX3_ofPart_48 : decode cX3_ofPart 48 = .ok (.iaload, 1) := by decide +kernel
theorem dX3_ofPart_49 : decode cX3_ofPart 49 = .ok (.ireturn, 1) := by decide +kernel
theorem dX3_ofPart_50 : decode cX3_ofPart 50 = .ok (.aload_n 0, 1) := by decide +kernel
theorem dX3_ofPart_51 : decode cX3_ofPart 51 = .ok (.getfield 12, 3) := by decide +kernel
theorem dX3_ofPart_54 : decode cX3_ofPart 54 = .ok (.getfield 106, 3) := by decide +kernel
theorem dX3_ofPart_57 : decode cX3_ofPart 57 = .ok (.iload_n 1, 1) := by decide +kernel
theorem dX3_ofPart_58 : decode cX3_ofPart 58 = .ok (.iaload, 1) := by decide +kernel
theorem dX3_ofPart_59 : decode cX3_ofPart 59 = .ok (.ireturn, 1) := by decide +kernel
theorem dX3_ofPart_60 : decode cX3_ofPart 60 = .ok (.aload_n 0, 1) := by decide +kernel
theorem dX3_ofPart_61 : decode cX3_ofPart 61 = .ok (.getfield 12, 3) := by decide +kernel
theorem dX3_ofPart_64 : decode cX3_ofPart 64 = .ok (.getfield 69, 3) := by decide +kernel
theorem dX3_ofPart_67 : decode cX3_ofPart 67 = .ok (.iload_n 1, 1) := by decide +kernel
theorem dX3_ofPart_68 : decode cX3_ofPart 68 = .ok (.iaload, 1) := by decide +kernel
theorem dX3_ofPart_69 : decode cX3_ofPart 69 = .ok (.ireturn, 1) := by decide +kernel
theorem dX3_ofPart_70 : decode cX3_ofPart 70 = .ok (.aload_n 0, 1) := by decide +kernel
theorem dX3_ofPart_71 : decode cX3_ofPart 71 = .ok (.getfield 12, 3) := by decide +kernel
theorem dX3_ofPart_74 : decode cX3_ofPart 74 = .ok (.getfield 109, 3) := by decide +kernel
theorem dX3_ofPart_77 : decode cX3_ofPart 77 = .ok (.iload_n 1, 1) := by decide +kernel
theorem dX3_ofPart_78 : decode cX3_ofPart 78 = .ok (.iaload, 1) := by decide +kernel
theorem dX3_ofPart_79 : decode cX3_ofPart 79 = .ok (.ireturn, 1) := by decide +kernel
theorem dX3_ofPart_80 : decode cX3_ofPart 80 = .ok (.aload_n 0, 1) := by decide +kernel
theorem dX3_ofPart_81 : decode cX3_ofPart 81 = .ok (.getfield 12, 3) := by decide +kernel
theorem dX3_ofPart_84 : decode cX3_ofPart 84 = .ok (.iload_n 1, 1) := by decide +kernel
theorem dX3_ofPart_85 : decode cX3_ofPart 85 = .ok (.invokevirtual 112, 3) := by decide +kernel
theorem dX3_ofPart_88 : decode cX3_ofPart 88 = .ok (.ireturn, 1) := by decide +kernel
theorem dX3_ofPart_89 : decode cX3_ofPart 89 = .ok (.aload_n 0, 1) := by decide +kernel
theorem dX3_ofPart_90 : decode cX3_ofPart 90 = .ok (.getfield 21, 3) := by decide +kernel
theorem dX3_ofPart_93 : decode cX3_ofPart 93 = .ok (.iload_n 1, 1) := by decide +kernel
theorem dX3_ofPart_94 : decode cX3_ofPart 94 = .ok (.invokevirtual 115, 3) := by decide +kernel
theorem dX3_ofPart_97 : decode cX3_ofPart 97 = .ok (.ireturn, 1) := by decide +kernel
theorem dX3_ofPart_98 : decode cX3_ofPart 98 = .ok (.aload_n 0, 1) := by decide +kernel
theorem dX3_ofPart_99 : decode cX3_ofPart 99 = .ok (.getfield 12, 3) := by decide +kernel
theorem dX3_ofPart_102 : decode cX3_ofPart 102 = .ok (.iload_n 1, 1) := by decide +kernel
theorem dX3_ofPart_103 : decode cX3_ofPart 103 = .ok (.aload_n 0, 1) := by decide +kernel
theorem dX3_ofPart_104 : decode cX3_ofPart 104 = .ok (.getfield 12, 3) := by decide +kernel
theorem dX3_ofPart_107 : decode cX3_ofPart 107 = .ok (.invokevirtual 118, 3) := by decide +kernel
theorem dX3_ofPart_110 : decode cX3_ofPart 110 = .ok (.invokevirtual 53, 3) := by decide +kernel
theorem dX3_ofPart_113 : decode cX3_ofPart 113 = .ok (.invokestatic 57, 3) := by decide +kernel
theorem dX3_ofPart_116 : decode cX3_ofPart 116 = .ok (.ireturn, 1) := by decide +kernel
theorem dX3_ofReader_0 : decode cX3_ofReader 0 = .ok (.iload_n 2, 1) := by decide +kernel
theorem dX3_ofReader_1 : decode cX3_ofReader 1 = .ok (.tableswitch 121 0 5 #[39, 52, 65, 85, 101, 111], 39) := by decide +kernel
theorem dX3_ofReader_40 : decode cX3_ofReader 40 = .ok (.aload_n 0, 1) := by decide +kernel
theorem dX3_ofReader_41 : decode cX3_ofReader 41 = .ok (.getfield 21, 3) := by decide +kernel
theorem dX3_ofReader_44 : decode cX3_ofReader 44 = .ok (.getfield 122, 3) := by decide +kernel
theorem dX3_ofReader_47 : decode cX3_ofReader 47 = .ok (.iload_n 1, 1) := by decide +kernel
theorem dX3_ofReader_48 : decode cX3_ofReader 48 = .ok (.iaload, 1) := by decide +kernel
theorem dX3_ofReader_49 : decode cX3_ofReader 49 = .ok (.invokestatic 57, 3) := by decide +kernel
theorem dX3_ofReader_52 : decode cX3_ofReader 52 = .ok (.ireturn, 1) := by decide +kernel
theorem dX3_ofReader_53 : decode cX3_ofReader 53 = .ok (.aload_n 0, 1) := by decide +kernel
theorem dX3_ofReader_54 : decode cX3_ofReader 54 = .ok (.getfield 21, 3) := by decide +kernel
theorem dX3_ofReader_57 : decode cX3_ofReader 57 = .ok (.getfield 125, 3) := by decide +kernel
theorem dX3_ofReader_60 : decode cX3_ofReader 60 = .ok (.iload_n 1, 1) := by decide +kernel
theorem dX3_ofReader_61 : decode cX3_ofReader 61 = .ok (.iaload, 1) := by decide +kernel
theorem dX3_ofReader_62 : decode cX3_ofReader 62 = .ok (.invokestatic 57, 3) := by decide +kernel
theorem dX3_ofReader_65 : decode cX3_ofReader 65 = .ok (.ireturn, 1) := by decide +kernel
theorem dX3_ofReader_66 : decode cX3_ofReader 66 = .ok (.aload_n 0, 1) := by decide +kernel
theorem dX3_ofReader_67 : decode cX3_ofReader 67 = .ok (.getfield 12, 3) := by decide +kernel
theorem dX3_ofReader_70 : decode cX3_ofReader 70 = .ok (.getfield 62, 3) := by decide +kernel
theorem dX3_ofReader_73 : decode cX3_ofReader 73 = .ok (.aload_n 0, 1) := by decide +kernel
theorem dX3_ofReader_74 : decode cX3_ofReader 74 = .ok (.getfield 21, 3) := by decide +kernel
theorem dX3_ofReader_77 : decode cX3_ofReader 77 = .ok (.iload_n 1, 1) := by decide +kernel
theorem dX3_ofReader_78 : decode cX3_ofReader 78 = .ok (.invokevirtual 49, 3) := by decide +kernel
theorem dX3_ofReader_81 : decode cX3_ofReader 81 = .ok (.invokestatic 57, 3) := by decide +kernel
theorem dX3_ofReader_84 : decode cX3_ofReader 84 = .ok (.isub, 1) := by decide +kernel
theorem dX3_ofReader_85 : decode cX3_ofReader 85 = .ok (.ireturn, 1) := by decide +kernel
theorem dX3_ofReader_86 : decode cX3_ofReader 86 = .ok (.aload_n 0, 1) := by decide +kernel
theorem dX3_ofReader_87 : decode cX3_ofReader 87 = .ok (.getfield 12, 3) := by decide +kernel
theorem dX3_ofReader_90 : decode cX3_ofReader 90 = .ok (.aload_n 0, 1) := by decide +kernel
theorem dX3_ofReader_91 : decode cX3_ofReader 91 = .ok (.getfield 21, 3) := by decide +kernel
theorem dX3_ofReader_94 : decode cX3_ofReader 94 = .ok (.iload_n 1, 1) := by decide +kernel
theorem dX3_ofReader_95 : decode cX3_ofReader 95 = .ok (.invokevirtual 49, 3) := by decide +kernel
theorem dX3_ofReader_98 : decode cX3_ofReader 98 = .ok (.invokevirtual 128, 3) := by decide +kernel
theorem dX3_ofReader_101 : decode cX3_ofReader 101 = .ok (.ireturn, 1) := by decide +kernel
theorem dX3_ofReader_102 : decode cX3_ofReader 102 = .ok (.aload_n 0, 1) := by decide +kernel
theorem dX3_ofReader_103 : decode cX3_ofReader 103 = .ok (.getfield 21, 3) := by decide +kernel
theorem dX3_ofReader_106 : decode cX3_ofReader 106 = .ok (.getfield 88, 3) := by decide +kernel
theorem dX3_ofReader_109 : decode cX3_ofReader 109 = .ok (.iload_n 1, 1) := by decide +kernel
theorem dX3_ofReader_110 : decode cX3_ofReader 110 = .ok (.iaload, 1) := by decide +kernel
theorem dX3_ofReader_111 : decode cX3_ofReader 111 = .ok (.ireturn, 1) := by decide +kernel
theorem dX3_ofReader_112 : decode cX3_ofReader 112 = .ok (.aload_n 0, 1) := by decide +kernel
theorem dX3_ofReader_113 : decode cX3_ofReader 113 = .ok (.getfield 21, 3) := by decide +kernel
theorem dX3_ofReader_116 : decode cX3_ofReader 116 = .ok (.getfield 91, 3) := by decide +kernel
theorem dX3_ofReader_119 : decode cX3_ofReader 119 = .ok (.iload_n 1, 1) := by decide +kernel
theorem dX3_ofReader_120 : decode cX3_ofReader 120 = .ok (.iaload, 1) := by decide +kernel
theorem dX3_ofReader_121 : decode cX3_ofReader 121 = .ok (.ireturn, 1) := by decide +kernel
theorem dX3_ofReader_122 : decode cX3_ofReader 122 = .ok (.aload_n 0, 1) := by decide +kernel
theorem dX3_ofReader_123 : decode cX3_ofReader 123 = .ok (.getfield 21, 3) := by decide +kernel
theorem dX3_ofReader_126 : decode cX3_ofReader 126 = .ok (.getfield 94, 3) := by decide +kernel
theorem dX3_ofReader_129 : decode cX3_ofReader 129 = .ok (.iload_n 1, 1) := by decide +kernel
theorem dX3_ofReader_130 : decode cX3_ofReader 130 = .ok (.iaload, 1) := by decide +kernel
theorem dX3_ofReader_131 : decode cX3_ofReader 131 = .ok (.ireturn, 1) := by decide +kernel
theorem dX3_ofPlot_0 : decode cX3_ofPlot 0 = .ok (.iload_n 2, 1) := by decide +kernel
theorem dX3_ofPlot_1 : decode cX3_ofPlot 1 = .ok (.tableswitch 54 0 2 #[27, 36, 45], 27) := by decide +kernel
theorem dX3_ofPlot_28 : decode cX3_ofPlot 28 = .ok (.aload_n 0, 1) := by decide +kernel
theorem dX3_ofPlot_29 : decode cX3_ofPlot 29 = .ok (.getfield 12, 3) := by decide +kernel
theorem dX3_ofPlot_32 : decode cX3_ofPlot 32 = .ok (.iload_n 1, 1) := by decide +kernel
theorem dX3_ofPlot_33 : decode cX3_ofPlot 33 = .ok (.invokevirtual 131, 3) := by decide +kernel
theorem dX3_ofPlot_36 : decode cX3_ofPlot 36 = .ok (.ireturn, 1) := by decide +kernel
theorem dX3_ofPlot_37 : decode cX3_ofPlot 37 = .ok (.aload_n 0, 1) := by decide +kernel
theorem dX3_ofPlot_38 : decode cX3_ofPlot 38 = .ok (.getfield 12, 3) := by decide +kernel
theorem dX3_ofPlot_41 : decode cX3_ofPlot 41 = .ok (.iload_n 1, 1) := by decide +kernel
theorem dX3_ofPlot_42 : decode cX3_ofPlot 42 = .ok (.invokevirtual 134, 3) := by decide +kernel
theorem dX3_ofPlot_45 : decode cX3_ofPlot 45 = .ok (.ireturn, 1) := by decide +kernel
theorem dX3_ofPlot_46 : decode cX3_ofPlot 46 = .ok (.aload_n 0, 1) := by decide +kernel
theorem dX3_ofPlot_47 : decode cX3_ofPlot 47 = .ok (.getfield 12, 3) := by decide +kernel
theorem dX3_ofPlot_50 : decode cX3_ofPlot 50 = .ok (.iload_n 1, 1) := by decide +kernel
theorem dX3_ofPlot_51 : decode cX3_ofPlot 51 = .ok (.invokevirtual 137, 3) := by decide +kernel
theorem dX3_ofPlot_54 : decode cX3_ofPlot 54 = .ok (.ireturn, 1) := by decide +kernel
theorem dX3_ofPlot_55 : decode cX3_ofPlot 55 = .ok (.aload_n 0, 1) := by decide +kernel
theorem dX3_ofPlot_56 : decode cX3_ofPlot 56 = .ok (.iload_n 1, 1) := by decide +kernel
theorem dX3_ofPlot_57 : decode cX3_ofPlot 57 = .ok (.invokevirtual 140, 3) := by decide +kernel
theorem dX3_ofPlot_60 : decode cX3_ofPlot 60 = .ok (.ireturn, 1) := by decide +kernel
theorem dX3_howManyHang_0 : decode cX3_howManyHang 0 = .ok (.iconst 0, 1) := by decide +kernel
theorem dX3_howManyHang_1 : decode cX3_howManyHang 1 = .ok (.istore_n 2, 1) := by decide +kernel
theorem dX3_howManyHang_2 : decode cX3_howManyHang 2 = .ok (.iconst 0, 1) := by decide +kernel
theorem dX3_howManyHang_3 : decode cX3_howManyHang 3 = .ok (.istore_n 3, 1) := by decide +kernel
theorem dX3_howManyHang_4 : decode cX3_howManyHang 4 = .ok (.iload_n 3, 1) := by decide +kernel
theorem dX3_howManyHang_5 : decode cX3_howManyHang 5 = .ok (.bipush 6, 2) := by decide +kernel
theorem dX3_howManyHang_7 : decode cX3_howManyHang 7 = .ok (.if_icmp .ge 31, 3) := by decide +kernel
theorem dX3_howManyHang_10 : decode cX3_howManyHang 10 = .ok (.iload_n 2, 1) := by decide +kernel
theorem dX3_howManyHang_11 : decode cX3_howManyHang 11 = .ok (.aload_n 0, 1) := by decide +kernel
theorem dX3_howManyHang_12 : decode cX3_howManyHang 12 = .ok (.getfield 12, 3) := by decide +kernel
theorem dX3_howManyHang_15 : decode cX3_howManyHang 15 = .ok (.aload_n 0, 1) := by decide +kernel
theorem dX3_howManyHang_16 : decode cX3_howManyHang 16 = .ok (.getfield 21, 3) := by decide +kernel
theorem dX3_howManyHang_19 : decode cX3_howManyHang 19 = .ok (.iload_n 3, 1) := by decide +kernel
theorem dX3_howManyHang_20 : decode cX3_howManyHang 20 = .ok (.invokevirtual 49, 3) := by decide +kernel
theorem dX3_howManyHang_23 : decode cX3_howManyHang 23 = .ok (.invokevirtual 128, 3) := by decide +kernel
theorem dX3_howManyHang_26 : decode cX3_howManyHang 26 = .ok (.iload_n 1, 1) := by decide +kernel
theorem dX3_howManyHang_27 : decode cX3_howManyHang 27 = .ok (.ishr, 1) := by decide +kernel
theorem dX3_howManyHang_28 : decode cX3_howManyHang 28 = .ok (.iconst 1, 1) := by decide +kernel
theorem dX3_howManyHang_29 : decode cX3_howManyHang 29 = .ok (.iand, 1) := by decide +kernel
theorem dX3_howManyHang_30 : decode cX3_howManyHang 30 = .ok (.iadd, 1) := by decide +kernel
theorem dX3_howManyHang_31 : decode cX3_howManyHang 31 = .ok (.istore_n 2, 1) := by decide +kernel
theorem dX3_howManyHang_32 : decode cX3_howManyHang 32 = .ok (.iinc 3 1, 3) := by decide +kernel
theorem dX3_howManyHang_35 : decode cX3_howManyHang 35 = .ok (.goto (-31), 3) := by decide +kernel
theorem dX3_howManyHang_38 : decode cX3_howManyHang 38 = .ok (.iload_n 2, 1) := by decide +kernel
theorem dX3_howManyHang_39 : decode cX3_howManyHang 39 = .ok (.ireturn, 1) := by decide +kernel
theorem dX3_ofAll_0 : decode cX3_ofAll 0 = .ok (.iload_n 1, 1) := by decide +kernel
theorem dX3_ofAll_1 : decode cX3_ofAll 1 = .ok (.tableswitch 69 0 4 #[35, 43, 51, 56, 61], 35) := by decide +kernel
theorem dX3_ofAll_36 : decode cX3_ofAll 36 = .ok (.aload_n 0, 1) := by decide +kernel
theorem dX3_ofAll_37 : decode cX3_ofAll 37 = .ok (.getfield 12, 3) := by decide +kernel
theorem dX3_ofAll_40 : decode cX3_ofAll 40 = .ok (.getfield 62, 3) := by decide +kernel
theorem dX3_ofAll_43 : decode cX3_ofAll 43 = .ok (.ireturn, 1) := by decide +kernel
theorem dX3_ofAll_44 : decode cX3_ofAll 44 = .ok (.aload_n 0, 1) := by decide +kernel
theorem dX3_ofAll_45 : decode cX3_ofAll 45 = .ok (.getfield 12, 3) := by decide +kernel
theorem dX3_ofAll_48 : decode cX3_ofAll 48 = .ok (.invokevirtual 143, 3) := by decide +kernel
theorem dX3_ofAll_51 : decode cX3_ofAll 51 = .ok (.ireturn, 1) := by decide +kernel
theorem dX3_ofAll_52 : decode cX3_ofAll 52 = .ok (.aload_n 0, 1) := by decide +kernel
theorem dX3_ofAll_53 : decode cX3_ofAll 53 = .ok (.getfield 42, 3) := by decide +kernel
theorem dX3_ofAll_56 : decode cX3_ofAll 56 = .ok (.ireturn, 1) := by decide +kernel
theorem dX3_ofAll_57 : decode cX3_ofAll 57 = .ok (.aload_n 0, 1) := by decide +kernel
theorem dX3_ofAll_58 : decode cX3_ofAll 58 = .ok (.getfield 46, 3) := by decide +kernel
theorem dX3_ofAll_61 : decode cX3_ofAll 61 = .ok (.ireturn, 1) := by decide +kernel
theorem dX3_ofAll_62 : decode cX3_ofAll 62 = .ok (.aload_n 0, 1) := by decide +kernel
theorem dX3_ofAll_63 : decode cX3_ofAll 63 = .ok (.getfield 21, 3) := by decide +kernel
theorem dX3_ofAll_66 : decode cX3_ofAll 66 = .ok (.invokevirtual 146, 3) := by decide +kernel
theorem dX3_ofAll_69 : decode cX3_ofAll 69 = .ok (.ireturn, 1) := by decide +kernel
theorem dX3_ofAll_70 : decode cX3_ofAll 70 = .ok (.aload_n 0, 1) := by decide +kernel
theorem dX3_ofAll_71 : decode cX3_ofAll 71 = .ok (.getfield 21, 3) := by decide +kernel
theorem dX3_ofAll_74 : decode cX3_ofAll 74 = .ok (.aload_n 0, 1) := by decide +kernel
theorem dX3_ofAll_75 : decode cX3_ofAll 75 = .ok (.getfield 12, 3) := by decide +kernel
theorem dX3_ofAll_78 : decode cX3_ofAll 78 = .ok (.invokevirtual 118, 3) := by decide +kernel
theorem dX3_ofAll_81 : decode cX3_ofAll 81 = .ok (.invokevirtual 149, 3) := by decide +kernel
theorem dX3_ofAll_84 : decode cX3_ofAll 84 = .ok (.ireturn, 1) := by decide +kernel
theorem dX3_bestPart_0 : decode cX3_bestPart 0 = .ok (.iconst (-1), 1) := by decide +kernel
theorem dX3_bestPart_1 : decode cX3_bestPart 1 = .ok (.istore_n 2, 1) := by decide +kernel
theorem dX3_bestPart_2 : decode cX3_bestPart 2 = .ok (.iconst 0, 1) := by decide +kernel
theorem dX3_bestPart_3 : decode cX3_bestPart 3 = .ok (.istore_n 3, 1) := by decide +kernel
theorem dX3_bestPart_4 : decode cX3_bestPart 4 = .ok (.iconst 0, 1) := by decide +kernel
theorem dX3_bestPart_5 : decode cX3_bestPart 5 = .ok (.istore 4, 2) := by decide +kernel
theorem dX3_bestPart_7 : decode cX3_bestPart 7 = .ok (.iconst 0, 1) := by decide +kernel
theorem dX3_bestPart_8 : decode cX3_bestPart 8 = .ok (.istore 5, 2) := by decide +kernel
theorem dX3_bestPart_10 : decode cX3_bestPart 10 = .ok (.iload 5, 2) := by decide +kernel
theorem dX3_bestPart_12 : decode cX3_bestPart 12 = .ok (.aload_n 0, 1) := by decide +kernel
theorem dX3_bestPart_13 : decode cX3_bestPart 13 = .ok (.getfield 12, 3) := by decide +kernel
theorem dX3_bestPart_16 : decode cX3_bestPart 16 = .ok (.getfield 62, 3) := by decide +kernel
theorem dX3_bestPart_19 : decode cX3_bestPart 19 = .ok (.if_icmp .ge 88, 3) := by decide +kernel
theorem dX3_bestPart_22 : decode cX3_bestPart 22 = .ok (.aload_n 0, 1) := by decide +kernel
theorem dX3_bestPart_23 : decode cX3_bestPart 23 = .ok (.getfield 21, 3) := by decide +kernel
theorem dX3_bestPart_26 : decode cX3_bestPart 26 = .ok (.iload_n 1, 1) := by decide +kernel
theorem dX3_bestPart_27 : decode cX3_bestPart 27 = .ok (.iload 5, 2) := by decide +kernel
theorem dX3_bestPart_29 : decode cX3_bestPart 29 = .ok (.invokevirtual 97, 3) := by decide +kernel
theorem dX3_bestPart_32 : decode cX3_bestPart 32 = .ok (.ifCond .ne 69, 3) := by decide +kernel
theorem dX3_bestPart_35 : decode cX3_bestPart 35 = .ok (.aload_n 0, 1) := by decide +kernel
theorem dX3_bestPart_36 : decode cX3_bestPart 36 = .ok (.iload_n 1, 1) := by decide +kernel
theorem dX3_bestPart_37 : decode cX3_bestPart 37 = .ok (.iload 5, 2) := by decide +kernel
theorem dX3_bestPart_39 : decode cX3_bestPart 39 = .ok (.iconst 3, 1) := by decide +kernel
theorem dX3_bestPart_40 : decode cX3_bestPart 40 = .ok (.invokevirtual 152, 3) := by decide +kernel
theorem dX3_bestPart_43 : decode cX3_bestPart 43 = .ok (.istore 6, 2) := by decide +kernel
theorem dX3_bestPart_45 : decode cX3_bestPart 45 = .ok (.aload_n 0, 1) := by decide +kernel
theorem dX3_bestPart_46 : decode cX3_bestPart 46 = .ok (.iload_n 1, 1) := by decide +kernel
theorem dX3_bestPart_47 : decode cX3_bestPart 47 = .ok (.iload 5, 2) := by decide +kernel
theorem dX3_bestPart_49 : decode cX3_bestPart 49 = .ok (.iconst 4, 1) := by decide +kernel
theorem dX3_bestPart_50 : decode cX3_bestPart 50 = .ok (.invokevirtual 152, 3) := by decide +kernel
theorem dX3_bestPart_53 : decode cX3_bestPart 53 = .ok (.istore 7, 2) := by decide +kernel
theorem dX3_bestPart_55 : decode cX3_bestPart 55 = .ok (.iload 6, 2) := by decide +kernel
theorem dX3_bestPart_57 : decode cX3_bestPart 57 = .ok (.iload_n 3, 1) := by decide +kernel
theorem dX3_bestPart_58 : decode cX3_bestPart 58 = .ok (.if_icmp .lt 16, 3) := by decide +kernel
theorem dX3_bestPart_61 : decode cX3_bestPart 61 = .ok (.iload 6, 2) := by decide +kernel
theorem dX3_bestPart_63 : decode cX3_bestPart 63 = .ok (.iload_n 3, 1) := by decide +kernel
theorem dX3_bestPart_64 : decode cX3_bestPart 64 = .ok (.if_icmp .ne 14, 3) := by decide +kernel
theorem dX3_bestPart_67 : decode cX3_bestPart 67 = .ok (.iload 7, 2) := by decide +kernel
theorem dX3_bestPart_69 : decode cX3_bestPart 69 = .ok (.iload 4, 2) := by decide +kernel
theorem dX3_bestPart_71 : decode cX3_bestPart 71 = .ok (.if_icmp .ge 7, 3) := by decide +kernel
theorem dX3_bestPart_74 : decode cX3_bestPart 74 = .ok (.iconst 1, 1) := by decide +kernel
theorem dX3_bestPart_75 : decode cX3_bestPart 75 = .ok (.goto 4, 3) := by decide +kernel
theorem dX3_bestPart_78 : decode cX3_bestPart 78 = .ok (.iconst 0, 1) := by decide +kernel
theorem dX3_bestPart_79 : decode cX3_bestPart 79 = .ok (.istore 8, 2) := by decide +kernel
theorem dX3_bestPart_81 : decode cX3_bestPart 81 = .ok (.iload_n 2, 1) := by decide +kernel
theorem dX3_bestPart_82 : decode cX3_bestPart 82 = .ok (.iconst (-1), 1) := by decide +kernel
theorem dX3_bestPart_83 : decode cX3_bestPart 83 = .ok (.if_icmp .eq 8, 3) := by decide +kernel
theorem dX3_bestPart_86 : decode cX3_bestPart 86 = .ok (.iload 8, 2) := by decide +kernel
theorem dX3_bestPart_88 : decode cX3_bestPart 88 = .ok (.ifCond .eq 13, 3) := by decide +kernel
theorem dX3_bestPart_91 : decode cX3_bestPart 91 = .ok (.iload 5, 2) := by decide +kernel
theorem dX3_bestPart_93 : decode cX3_bestPart 93 = .ok (.istore_n 2, 1) := by decide +kernel
theorem dX3_bestPart_94 : decode cX3_bestPart 94 = .ok (.iload 6, 2) := by decide +kernel
theorem dX3_bestPart_96 : decode cX3_bestPart 96 = .ok (.istore_n 3, 1) := by decide +kernel
theorem dX3_bestPart_97 : decode cX3_bestPart 97 = .ok (.iload 7, 2) := by decide +kernel
theorem dX3_bestPart_99 : decode cX3_bestPart 99 = .ok (.istore 4, 2) := by decide +kernel
theorem dX3_bestPart_101 : decode cX3_bestPart 101 = .ok (.iinc 5 1, 3) := by decide +kernel
theorem dX3_bestPart_104 : decode cX3_bestPart 104 = .ok (.goto (-94), 3) := by decide +kernel
theorem dX3_bestPart_107 : decode cX3_bestPart 107 = .ok (.iload_n 2, 1) := by decide +kernel
theorem dX3_bestPart_108 : decode cX3_bestPart 108 = .ok (.ireturn, 1) := by decide +kernel
theorem dX3_linesForAll_0 : decode cX3_linesForAll 0 = .ok (.iconst 0, 1) := by decide +kernel
theorem dX3_linesForAll_1 : decode cX3_linesForAll 1 = .ok (.istore_n 2, 1) := by decide +kernel
theorem dX3_linesForAll_2 : decode cX3_linesForAll 2 = .ok (.iconst 0, 1) := by decide +kernel
theorem dX3_linesForAll_3 : decode cX3_linesForAll 3 = .ok (.istore_n 3, 1) := by decide +kernel
theorem dX3_linesForAll_4 : decode cX3_linesForAll 4 = .ok (.iload_n 3, 1) := by decide +kernel
theorem dX3_linesForAll_5 : decode cX3_linesForAll 5 = .ok (.aload_n 0, 1) := by decide +kernel
theorem dX3_linesForAll_6 : decode cX3_linesForAll 6 = .ok (.getfield 12, 3) := by decide +kernel
theorem dX3_linesForAll_9 : decode cX3_linesForAll 9 = .ok (.getfield 62, 3) := by decide +kernel
theorem dX3_linesForAll_12 : decode cX3_linesForAll 12 = .ok (.if_icmp .ge 35, 3) := by decide +kernel
theorem dX3_linesForAll_15 : decode cX3_linesForAll 15 = .ok (.aload_n 0, 1) := by decide +kernel
theorem dX3_linesForAll_16 : decode cX3_linesForAll 16 = .ok (.getfield 21, 3) := by decide +kernel
theorem dX3_linesForAll_19 : decode cX3_linesForAll 19 = .ok (.iload_n 1, 1) := by decide +kernel
theorem dX3_linesForAll_20 : decode cX3_linesForAll 20 = .ok (.iload_n 3, 1) := by decide +kernel
theorem dX3_linesForAll_21 : decode cX3_linesForAll 21 = .ok (.invokevirtual 97, 3) := by decide +kernel
theorem dX3_linesForAll_24 : decode cX3_linesForAll 24 = .ok (.ifCond .ne 17, 3) := by decide +kernel
theorem dX3_linesForAll_27 : decode cX3_linesForAll 27 = .ok (.iload_n 2, 1) := by decide +kernel
theorem dX3_linesForAll_28 : decode cX3_linesForAll 28 = .ok (.aload_n 0, 1) := by decide +kernel
theorem dX3_linesForAll_29 : decode cX3_linesForAll 29 = .ok (.iload_n 1, 1) := by decide +kernel
theorem dX3_linesForAll_30 : decode cX3_linesForAll 30 = .ok (.iload_n 3, 1) := by decide +kernel
theorem dX3_linesForAll_31 : decode cX3_linesForAll 31 = .ok (.invokevirtual 75, 3) := by decide +kernel
theorem dX3_linesForAll_34 : decode cX3_linesForAll 34 = .ok (.invokestatic 57, 3) := by decide +kernel
theorem dX3_linesForAll_37 : decode cX3_linesForAll 37 = .ok (.invokestatic 156, 3) := by decide +kernel
theorem dX3_linesForAll_40 : decode cX3_linesForAll 40 = .ok (.istore_n 2, 1) := by decide +kernel
theorem dX3_linesForAll_41 : decode cX3_linesForAll 41 = .ok (.iinc 3 1, 3) := by decide +kernel
theorem dX3_linesForAll_44 : decode cX3_linesForAll 44 = .ok (.goto (-40), 3) := by decide +kernel
theorem dX3_linesForAll_47 : decode cX3_linesForAll 47 = .ok (.iload_n 2, 1) := by decide +kernel
theorem dX3_linesForAll_48 : decode cX3_linesForAll 48 = .ok (.ireturn, 1) := by decide +kernel
theorem dX3_shareRead_0 : decode cX3_shareRead 0 = .ok (.aload_n 0, 1) := by decide +kernel
theorem dX3_shareRead_1 : decode cX3_shareRead 1 = .ok (.getfield 12, 3) := by decide +kernel
theorem dX3_shareRead_4 : decode cX3_shareRead 4 = .ok (.getfield 62, 3) := by decide +kernel
theorem dX3_shareRead_7 : decode cX3_shareRead 7 = .ok (.iconst 1, 1) := by decide +kernel
theorem dX3_shareRead_8 : decode cX3_shareRead 8 = .ok (.if_icmp .ge 5, 3) := by decide +kernel
theorem dX3_shareRead_11 : decode cX3_shareRead 11 = .ok (.dconst 1, 1) := by decide +kernel
theorem dX3_shareRead_12 : decode cX3_shareRead 12 = .ok (.dreturn, 1) := by decide +kernel
theorem dX3_shareRead_13 : decode cX3_shareRead 13 = .ok (.aload_n 0, 1) := by decide +kernel
theorem dX3_shareRead_14 : decode cX3_shareRead 14 = .ok (.getfield 21, 3) := by decide +kernel
theorem dX3_shareRead_17 : decode cX3_shareRead 17 = .ok (.invokevirtual 161, 3) := by decide +kernel
theorem dX3_shareRead_20 : decode cX3_shareRead 20 = .ok (.i2d, 1) := by decide +kernel
theorem dX3_shareRead_21 : decode cX3_shareRead 21 = .ok (.bipush 6, 2) := by decide +kernel
theorem dX3_shareRead_23 : decode cX3_shareRead 23 = .ok (.aload_n 0, 1) := by decide +kernel
theorem dX3_shareRead_24 : decode cX3_shareRead 24 = .ok (.getfield 12, 3) := by decide +kernel
theorem dX3_shareRead_27 : decode cX3_shareRead 27 = .ok (.getfield 62, 3) := by decide +kernel
theorem dX3_shareRead_30 : decode cX3_shareRead 30 = .ok (.imul, 1) := by decide +kernel
theorem dX3_shareRead_31 : decode cX3_shareRead 31 = .ok (.i2d, 1) := by decide +kernel
theorem dX3_shareRead_32 : decode cX3_shareRead 32 = .ok (.ddiv, 1) := by decide +kernel
theorem dX3_shareRead_33 : decode cX3_shareRead 33 = .ok (.dreturn, 1) := by decide +kernel
theorem dX4_init_0 : decode cX4_init 0 = .ok (.aload_n 0, 1) := by decide +kernel
theorem dX4_init_1 : decode cX4_init 1 = .ok (.invokespecial 3, 3) := by decide +kernel
theorem dX4_init_4 : decode cX4_init 4 = .ok (.aload_n 0, 1) := by decide +kernel
theorem dX4_init_5 : decode cX4_init 5 = .ok (.bipush 20, 2) := by decide +kernel
theorem dX4_init_7 : decode cX4_init 7 = .ok (.newarray .int, 2) := by decide +kernel
theorem dX4_init_9 : decode cX4_init 9 = .ok (.putfield 9, 3) := by decide +kernel
theorem dX4_init_12 : decode cX4_init 12 = .ok (.aload_n 0, 1) := by decide +kernel
theorem dX4_init_13 : decode cX4_init 13 = .ok (.bipush 20, 2) := by decide +kernel
theorem dX4_init_15 : decode cX4_init 15 = .ok (.newarray .int, 2) := by decide +kernel
theorem dX4_init_17 : decode cX4_init 17 = .ok (.putfield 15, 3) := by decide +kernel
theorem dX4_init_20 : decode cX4_init 20 = .ok (.aload_n 0, 1) := by decide +kernel
theorem dX4_init_21 : decode cX4_init 21 = .ok (.bipush 20, 2) := by decide +kernel
theorem dX4_init_23 : decode cX4_init 23 = .ok (.newarray .int, 2) := by decide +kernel
theorem dX4_init_25 : decode cX4_init 25 = .ok (.putfield 18, 3) := by decide +kernel
theorem dX4_init_28 : decode cX4_init 28 = .ok (.aload_n 0, 1) := by decide +kernel
theorem dX4_init_29 : decode cX4_init 29 = .ok (.bipush 20, 2) := by decide +kernel
theorem dX4_init_31 : decode cX4_init 31 = .ok (.newarray .int, 2) := by decide +kernel
theorem dX4_init_33 : decode cX4_init 33 = .ok (.putfield 21, 3) := by decide +kernel
theorem dX4_init_36 : decode cX4_init 36 = .ok (.return_, 1) := by decide +kernel
theorem dX4_copyFrom_0 : decode cX4_copyFrom 0 = .ok (.aload_n 0, 1) := by decide +kernel
theorem dX4_copyFrom_1 : decode cX4_copyFrom 1 = .ok (.aload_n 1, 1) := by decide +kernel
theorem dX4_copyFrom_2 : decode cX4_copyFrom 2 = .ok (.getfield 24, 3) := by decide +kernel
theorem dX4_copyFrom_5 : decode cX4_copyFrom 5 = .ok (.putfield 24, 3) := by decide +kernel
theorem dX4_copyFrom_8 : decode cX4_copyFrom 8 = .ok (.aload_n 1, 1) := by decide +kernel
theorem dX4_copyFrom_9 : decode cX4_copyFrom 9 = .ok (.getfield 9, 3) := by decide +kernel
theorem dX4_copyFrom_12 : decode cX4_copyFrom 12 = .ok (.iconst 0, 1) := by decide +kernel
theorem dX4_copyFrom_13 : decode cX4_copyFrom 13 = .ok (.aload_n 0, 1) := by decide +kernel
theorem dX4_copyFrom_14 : decode cX4_copyFrom 14 = .ok (.getfield 9, 3) := by decide +kernel
theorem dX4_copyFrom_17 : decode cX4_copyFrom 17 = .ok (.iconst 0, 1) := by decide +kernel
theorem dX4_copyFrom_18 : decode cX4_copyFrom 18 = .ok (.bipush 20, 2) := by decide +kernel
theorem dX4_copyFrom_20 : decode cX4_copyFrom 20 = .ok (.invokestatic 28, 3) := by decide +kernel
theorem dX4_copyFrom_23 : decode cX4_copyFrom 23 = .ok (.aload_n 1, 1) := by decide +kernel
theorem dX4_copyFrom_24 : decode cX4_copyFrom 24 = .ok (.getfield 15, 3) := by decide +kernel
theorem dX4_copyFrom_27 : decode cX4_copyFrom 27 = .ok (.iconst 0, 1) := by decide +kernel
theorem dX4_copyFrom_28 : decode cX4_copyFrom 28 = .ok (.aload_n 0, 1) := by decide +kernel
theorem dX4_copyFrom_29 : decode cX4_copyFrom 29 = .ok (.getfield 15, 3) := by decide +kernel
theorem dX4_copyFrom_32 : decode cX4_copyFrom 32 = .ok (.iconst 0, 1) := by decide +kernel
theorem dX4_copyFrom_33 : decode cX4_copyFrom 33 = .ok (.bipush 20, 2) := by decide +kernel
theorem dX4_copyFrom_35 : decode cX4_copyFrom 35 = .ok (.invokestatic 28, 3) := by decide +kernel
theorem dX4_copyFrom_38 : decode cX4_copyFrom 38 = .ok (.aload_n 1, 1) := by decide +kernel
theorem dX4_copyFrom_39 : decode cX4_copyFrom 39 = .ok (.getfield 18, 3) := by decide +kernel
theorem dX4_copyFrom_42 : decode cX4_copyFrom 42 = .ok (.iconst 0, 1) := by decide +kernel
theorem dX4_copyFrom_43 : decode cX4_copyFrom 43 = .ok (.aload_n 0, 1) := by decide +kernel
theorem dX4_copyFrom_44 : decode cX4_copyFrom 44 = .ok (.getfield 18, 3) := by decide +kernel
theorem dX4_copyFrom_47 : decode cX4_copyFrom 47 = .ok (.iconst 0, 1) := by decide +kernel
theorem dX4_copyFrom_48 : decode cX4_copyFrom 48 = .ok (.bipush 20, 2) := by decide +kernel
theorem dX4_copyFrom_50 : decode cX4_copyFrom 50 = .ok (.invokestatic 28, 3) := by decide +kernel
theorem dX4_copyFrom_53 : decode cX4_copyFrom 53 = .ok (.aload_n 1, 1) := by decide +kernel
theorem dX4_copyFrom_54 : decode cX4_copyFrom 54 = .ok (.getfield 21, 3) := by decide +kernel
theorem dX4_copyFrom_57 : decode cX4_copyFrom 57 = .ok (.iconst 0, 1) := by decide +kernel
theorem dX4_copyFrom_58 : decode cX4_copyFrom 58 = .ok (.aload_n 0, 1) := by decide +kernel
theorem dX4_copyFrom_59 : decode cX4_copyFrom 59 = .ok (.getfield 21, 3) := by decide +kernel
theorem dX4_copyFrom_62 : decode cX4_copyFrom 62 = .ok (.iconst 0, 1) := by decide +kernel
theorem dX4_copyFrom_63 : decode cX4_copyFrom 63 = .ok (.bipush 20, 2) := by decide +kernel
theorem dX4_copyFrom_65 : decode cX4_copyFrom 65 = .ok (.invokestatic 28, 3) := by decide +kernel
theorem dX4_copyFrom_68 : decode cX4_copyFrom 68 = .ok (.return_, 1) := by decide +kernel
theorem dX4_put_0 : decode cX4_put 0 = .ok (.aload_n 0, 1) := by decide +kernel
theorem dX4_put_1 : decode cX4_put 1 = .ok (.getfield 9, 3) := by decide +kernel
theorem dX4_put_4 : decode cX4_put 4 = .ok (.aload_n 0, 1) := by decide +kernel
theorem dX4_put_5 : decode cX4_put 5 = .ok (.getfield 24, 3) := by decide +kernel
theorem dX4_put_8 : decode cX4_put 8 = .ok (.iload_n 1, 1) := by decide +kernel
theorem dX4_put_9 : decode cX4_put 9 = .ok (.iastore, 1) := by decide +kernel
theorem dX4_put_10 : decode cX4_put 10 = .ok (.aload_n 0, 1) := by decide +kernel
theorem dX4_put_11 : decode cX4_put 11 = .ok (.getfield 15, 3) := by decide +kernel
theorem dX4_put_14 : decode cX4_put 14 = .ok (.aload_n 0, 1) := by decide +kernel
theorem dX4_put_15 : decode cX4_put 15 = .ok (.getfield 24, 3) := by decide +kernel
theorem dX4_put_18 : decode cX4_put 18 = .ok (.iload_n 2, 1) := by decide +kernel
theorem dX4_put_19 : decode cX4_put 19 = .ok (.iastore, 1) := by decide +kernel
theorem dX4_put_20 : decode cX4_put 20 = .ok (.aload_n 0, 1) := by decide +kernel
theorem dX4_put_21 : decode cX4_put 21 = .ok (.getfield 18, 3) := by decide +kernel
theorem dX4_put_24 : decode cX4_put 24 = .ok (.aload_n 0, 1) := by decide +kernel
theorem dX4_put_25 : decode cX4_put 25 = .ok (.getfield 24, 3) := by decide +kernel
theorem dX4_put_28 : decode cX4_put 28 = .ok (.iload_n 3, 1) := by decide +kernel
theorem dX4_put_29 : decode cX4_put 29 = .ok (.iastore, 1) := by decide +kernel
theorem dX4_put_30 : decode cX4_put 30 = .ok (.aload_n 0, 1) := by decide +kernel
theorem dX4_put_31 : decode cX4_put 31 = .ok (.getfield 21, 3) := by decide +kernel
theorem dX4_put_34 : decode cX4_put 34 = .ok (.aload_n 0, 1) := by decide +kernel
theorem dX4_put_35 : decode cX4_put 35 = .ok (.getfield 24, 3) := by decide +kernel
theorem dX4_put_38 : decode cX4_put 38 = .ok (.aload_n 0, 1) := by decide +kernel
theorem dX4_put_39 : decode cX4_put 39 = .ok (.aload_n 0, 1) := by decide +kernel
theorem dX4_put_40 : decode cX4_put 40 = .ok (.getfield 24, 3) := by decide +kernel
theorem dX4_put_43 : decode cX4_put 43 = .ok (.invokevirtual 34, 3) := by decide +kernel
theorem dX4_put_46 : decode cX4_put 46 = .ok (.iastore, 1) := by decide +kernel
theorem dX4_put_47 : decode cX4_put 47 = .ok (.aload_n 0, 1) := by decide +kernel
theorem dX4_put_48 : decode cX4_put 48 = .ok (.dup, 1) := by decide +kernel
theorem dX4_put_49 : decode cX4_put 49 = .ok (.getfield 24, 3) := by decide +kernel
theorem dX4_put_52 : decode cX4_put 52 = .ok (.iconst 1, 1) := by decide +kernel
theorem dX4_put_53 : decode cX4_put 53 = .ok (.iadd, 1) := by decide +kernel
theorem dX4_put_54 : decode cX4_put 54 = .ok (.putfield 24, 3) := by decide +kernel
theorem dX4_put_57 : decode cX4_put 57 = .ok (.return_, 1) := by decide +kernel
theorem dX4_rewrite_0 : decode cX4_rewrite 0 = .ok (.aload_n 0, 1) := by decide +kernel
theorem dX4_rewrite_1 : decode cX4_rewrite 1 = .ok (.getfield 9, 3) := by decide +kernel
theorem dX4_rewrite_4 : decode cX4_rewrite 4 = .ok (.iload_n 1, 1) := by decide +kernel
theorem dX4_rewrite_5 : decode cX4_rewrite 5 = .ok (.iaload, 1) := by decide +kernel
theorem dX4_rewrite_6 : decode cX4_rewrite 6 = .ok (.istore 4, 2) := by decide +kernel
theorem dX4_rewrite_8 : decode cX4_rewrite 8 = .ok (.aload_n 0, 1) := by decide +kernel
theorem dX4_rewrite_9 : decode cX4_rewrite 9 = .ok (.getfield 9, 3) := by decide +kernel
theorem dX4_rewrite_12 : decode cX4_rewrite 12 = .ok (.iload_n 1, 1) := by decide +kernel
theorem dX4_rewrite_13 : decode cX4_rewrite 13 = .ok (.iload_n 2, 1) := by decide +kernel
theorem dX4_rewrite_14 : decode cX4_rewrite 14 = .ok (.iastore, 1) := by decide +kernel
theorem dX4_rewrite_15 : decode cX4_rewrite 15 = .ok (.aload_n 0, 1) := by decide +kernel
theorem dX4_rewrite_16 : decode cX4_rewrite 16 = .ok (.getfield 15, 3) := by decide +kernel
theorem dX4_rewrite_19 : decode cX4_rewrite 19 = .ok (.iload_n 1, 1) := by decide +kernel
theorem dX4_rewrite_20 : decode cX4_rewrite 20 = .ok (.iload_n 3, 1) := by decide +kernel
theorem dX4_rewrite_21 : decode cX4_rewrite 21 = .ok (.iastore, 1) := by decide +kernel
theorem dX4_rewrite_22 : decode cX4_rewrite 22 = .ok (.iload_n 1, 1) := by decide +kernel
theorem dX4_rewrite_23 : decode cX4_rewrite 23 = .ok (.istore 5, 2) := by decide +kernel
theorem dX4_rewrite_25 : decode cX4_rewrite 25 = .ok (.iload 5, 2) := by decide +kernel
theorem dX4_rewrite_27 : decode cX4_rewrite 27 = .ok (.aload_n 0, 1) := by decide +kernel
theorem dX4_rewrite_28 : decode cX4_rewrite 28 = .ok (.getfield 24, 3) := by decide +kernel
theorem dX4_rewrite_31 : decode cX4_rewrite 31 = .ok (.if_icmp .ge 22, 3) := by decide +kernel
theorem dX4_rewrite_34 : decode cX4_rewrite 34 = .ok (.aload_n 0, 1) := by decide +kernel
theorem dX4_rewrite_35 : decode cX4_rewrite 35 = .ok (.getfield 21, 3) := by decide +kernel
theorem dX4_rewrite_38 : decode cX4_rewrite 38 = .ok (.iload 5, 2) := by decide +kernel
theorem dX4_rewrite_40 : decode cX4_rewrite 40 = .ok (.aload_n 0, 1) := by decide +kernel
theorem dX4_rewrite_41 : decode cX4_rewrite 41 = .ok (.iload 5, 2) := by decide +kernel
theorem dX4_rewrite_43 : decode cX4_rewrite 43 = .ok (.invokevirtual 34, 3) := by decide +kernel
theorem dX4_rewrite_46 : decode cX4_rewrite 46 = .ok (.iastore, 1) := by decide +kernel
theorem dX4_rewrite_47 : decode cX4_rewrite 47 = .ok (.iinc 5 1, 3) := by decide +kernel
theorem dX4_rewrite_50 : decode cX4_rewrite 50 = .ok (.goto (-25), 3) := by decide +kernel
theorem dX4_rewrite_53 : decode cX4_rewrite 53 = .ok (.iload 4, 2) := by decide +kernel
theorem dX4_rewrite_55 : decode cX4_rewrite 55 = .ok (.ireturn, 1) := by decide +kernel
theorem dX4_findNeeds_0 : decode cX4_findNeeds 0 = .ok (.iconst 0, 1) := by decide +kernel
theorem dX4_findNeeds_1 : decode cX4_findNeeds 1 = .ok (.istore_n 2, 1) := by decide +kernel
theorem dX4_findNeeds_2 : decode cX4_findNeeds 2 = .ok (.aload_n 0, 1) := by decide +kernel
theorem dX4_findNeeds_3 : decode cX4_findNeeds 3 = .ok (.getfield 9, 3) := by decide +kernel
theorem dX4_findNeeds_6 : decode cX4_findNeeds 6 = .ok (.iload_n 1, 1) := by decide +kernel
theorem dX4_findNeeds_7 : decode cX4_findNeeds 7 = .ok (.iaload, 1) := by decide +kernel
theorem dX4_findNeeds_8 : decode cX4_findNeeds 8 = .ok (.istore_n 3, 1) := by decide +kernel
theorem dX4_findNeeds_9 : decode cX4_findNeeds 9 = .ok (.iload_n 1, 1) := by decide +kernel
theorem dX4_findNeeds_10 : decode cX4_findNeeds 10 = .ok (.iconst 1, 1) := by decide +kernel
theorem dX4_findNeeds_11 : decode cX4_findNeeds 11 = .ok (.isub, 1) := by decide +kernel
theorem dX4_findNeeds_12 : decode cX4_findNeeds 12 = .ok (.istore 4, 2) := by decide +kernel
theorem dX4_findNeeds_14 : decode cX4_findNeeds 14 = .ok (.iload 4, 2) := by decide +kernel
theorem dX4_findNeeds_16 : decode cX4_findNeeds 16 = .ok (.ifCond .lt 44, 3) := by decide +kernel
theorem dX4_findNeeds_19 : decode cX4_findNeeds 19 = .ok (.iload_n 3, 1) := by decide +kernel
theorem dX4_findNeeds_20 : decode cX4_findNeeds 20 = .ok (.ifCond .eq 40, 3) := by decide +kernel
theorem dX4_findNeeds_23 : decode cX4_findNeeds 23 = .ok (.aload_n 0, 1) := by decide +kernel
theorem dX4_findNeeds_24 : decode cX4_findNeeds 24 = .ok (.getfield 9, 3) := by decide +kernel
theorem dX4_findNeeds_27 : decode cX4_findNeeds 27 = .ok (.iload 4, 2) := by decide +kernel
theorem dX4_findNeeds_29 : decode cX4_findNeeds 29 = .ok (.iaload, 1) := by decide +kernel
theorem dX4_findNeeds_30 : decode cX4_findNeeds 30 = .ok (.iload_n 3, 1) := by decide +kernel
theorem dX4_findNeeds_31 : decode cX4_findNeeds 31 = .ok (.iand, 1) := by decide +kernel
theorem dX4_findNeeds_32 : decode cX4_findNeeds 32 = .ok (.ifCond .eq 22, 3) := by decide +kernel
theorem dX4_findNeeds_35 : decode cX4_findNeeds 35 = .ok (.iload_n 2, 1) := by decide +kernel
theorem dX4_findNeeds_36 : decode cX4_findNeeds 36 = .ok (.iconst 1, 1) := by decide +kernel
theorem dX4_findNeeds_37 : decode cX4_findNeeds 37 = .ok (.iload 4, 2) := by decide +kernel
theorem dX4_findNeeds_39 : decode cX4_findNeeds 39 = .ok (.ishl, 1) := by decide +kernel
theorem dX4_findNeeds_40 : decode cX4_findNeeds 40 = .ok (.ior, 1) := by decide +kernel
theorem dX4_findNeeds_41 : decode cX4_findNeeds 41 = .ok (.istore_n 2, 1) := by decide +kernel
theorem dX4_findNeeds_42 : decode cX4_findNeeds 42 = .ok (.iload_n 3, 1) := by decide +kernel
theorem dX4_findNeeds_43 : decode cX4_findNeeds 43 = .ok (.aload_n 0, 1) := by decide +kernel
theorem dX4_findNeeds_44 : decode cX4_findNeeds 44 = .ok (.getfield 9, 3) := by decide +kernel
theorem dX4_findNeeds_47 : decode cX4_findNeeds 47 = .ok (.iload 4, 2) := by decide +kernel
theorem dX4_findNeeds_49 : decode cX4_findNeeds 49 = .ok (.iaload, 1) := by decide +kernel
theorem dX4_findNeeds_50 : decode cX4_findNeeds 50 = .ok (.iconst (-1), 1) := by decide +kernel
theorem dX4_findNeeds_51 : decode cX4_findNeeds 51 = .ok (.ixor, 1) := by decide +kernel
theorem dX4_findNeeds_52 : decode cX4_findNeeds 52 = .ok (.iand, 1) := by decide +kernel
theorem dX4_findNeeds_53 : decode cX4_findNeeds 53 = .ok (.istore_n 3, 1) := by decide +kernel
theorem dX4_findNeeds_54 : decode cX4_findNeeds 54 = .ok (.iinc 4 (-1), 3) := by decide +kernel
theorem dX4_findNeeds_57 : decode cX4_findNeeds 57 = .ok (.goto (-43), 3) := by decide +kernel
theorem dX4_findNeeds_60 : decode cX4_findNeeds 60 = .ok (.iload_n 2, 1) := by decide +kernel
theorem dX4_findNeeds_61 : decode cX4_findNeeds 61 = .ok (.ireturn, 1) := by decide +kernel
theorem dX4_allNeeds_0 : decode cX4_allNeeds 0 = .ok (.aload_n 0, 1) := by decide +kernel
theorem dX4_allNeeds_1 : decode cX4_allNeeds 1 = .ok (.getfield 21, 3) := by decide +kernel
theorem dX4_allNeeds_4 : decode cX4_allNeeds 4 = .ok (.iload_n 1, 1) := by decide +kernel
theorem dX4_allNeeds_5 : decode cX4_allNeeds 5 = .ok (.iaload, 1) := by decide +kernel
theorem dX4_allNeeds_6 : decode cX4_allNeeds 6 = .ok (.iload_n 2, 1) := by decide +kernel
theorem dX4_allNeeds_7 : decode cX4_allNeeds 7 = .ok (.iand, 1) := by decide +kernel
theorem dX4_allNeeds_8 : decode cX4_allNeeds 8 = .ok (.istore_n 3, 1) := by decide +kernel
theorem dX4_allNeeds_9 : decode cX4_allNeeds 9 = .ok (.iload_n 1, 1) := by decide +kernel
theorem dX4_allNeeds_10 : decode cX4_allNeeds 10 = .ok (.iconst 1, 1) := by decide +kernel
theorem dX4_allNeeds_11 : decode cX4_allNeeds 11 = .ok (.isub, 1) := by decide +kernel
theorem dX4_allNeeds_12 : decode cX4_allNeeds 12 = .ok (.istore 4, 2) := by decide +kernel
theorem dX4_allNeeds_14 : decode cX4_allNeeds 14 = .ok (.iload 4, 2) := by decide +kernel
theorem dX4_allNeeds_16 : decode cX4_allNeeds 16 = .ok (.ifCond .lt 30, 3) := by decide +kernel
theorem dX4_allNeeds_19 : decode cX4_allNeeds 19 = .ok (.iload_n 3, 1) := by decide +kernel
theorem dX4_allNeeds_20 : decode cX4_allNeeds 20 = .ok (.iload 4, 2) := by decide +kernel
theorem dX4_allNeeds_22 : decode cX4_allNeeds 22 = .ok (.invokestatic 38, 3) := by decide +kernel
theorem dX4_allNeeds_25 : decode cX4_allNeeds 25 = .ok (.ifCond .eq 15, 3) := by decide +kernel
theorem dX4_allNeeds_28 : decode cX4_allNeeds 28 = .ok (.iload_n 3, 1) := by decide +kernel
theorem dX4_allNeeds_29 : decode cX4_allNeeds 29 = .ok (.aload_n 0, 1) := by decide +kernel
theorem dX4_allNeeds_30 : decode cX4_allNeeds 30 = .ok (.getfield 21, 3) := by decide +kernel
theorem dX4_allNeeds_33 : decode cX4_allNeeds 33 = .ok (.iload 4, 2) := by decide +kernel
theorem dX4_allNeeds_35 : decode cX4_allNeeds 35 = .ok (.iaload, 1) := by decide +kernel
theorem dX4_allNeeds_36 : decode cX4_allNeeds 36 = .ok (.iload_n 2, 1) := by decide +kernel
theorem dX4_allNeeds_37 : decode cX4_allNeeds 37 = .ok (.iand, 1) := by decide +kernel
theorem dX4_allNeeds_38 : decode cX4_allNeeds 38 = .ok (.ior, 1) := by decide +kernel
theorem dX4_allNeeds_39 : decode cX4_allNeeds 39 = .ok (.istore_n 3, 1) := by decide +kernel
theorem dX4_allNeeds_40 : decode cX4_allNeeds 40 = .ok (.iinc 4 (-1), 3) := by decide +kernel
theorem dX4_allNeeds_43 : decode cX4_allNeeds 43 = .ok (.goto (-29), 3) := by decide +kernel
theorem dX4_allNeeds_46 : decode cX4_allNeeds 46 = .ok (.iload_n 3, 1) := by decide +kernel
theorem dX4_allNeeds_47 : decode cX4_allNeeds 47 = .ok (.ireturn, 1) := by decide +kernel
theorem dX4_howManyNeed_0 : decode cX4_howManyNeed 0 = .ok (.iconst 0, 1) := by decide +kernel
theorem dX4_howManyNeed_1 : decode cX4_howManyNeed 1 = .ok (.istore_n 2, 1) := by decide +kernel
theorem dX4_howManyNeed_2 : decode cX4_howManyNeed 2 = .ok (.iload_n 1, 1) := by decide +kernel
theorem dX4_howManyNeed_3 : decode cX4_howManyNeed 3 = .ok (.iconst 1, 1) := by decide +kernel
theorem dX4_howManyNeed_4 : decode cX4_howManyNeed 4 = .ok (.iadd, 1) := by decide +kernel
theorem dX4_howManyNeed_5 : decode cX4_howManyNeed 5 = .ok (.istore_n 3, 1) := by decide +kernel
theorem dX4_howManyNeed_6 : decode cX4_howManyNeed 6 = .ok (.iload_n 3, 1) := by decide +kernel
theorem dX4_howManyNeed_7 : decode cX4_howManyNeed 7 = .ok (.aload_n 0, 1) := by decide +kernel
theorem dX4_howManyNeed_8 : decode cX4_howManyNeed 8 = .ok (.getfield 24, 3) := by decide +kernel
theorem dX4_howManyNeed_11 : decode cX4_howManyNeed 11 = .ok (.if_icmp .ge 22, 3) := by decide +kernel
theorem dX4_howManyNeed_14 : decode cX4_howManyNeed 14 = .ok (.iload_n 2, 1) := by decide +kernel
theorem dX4_howManyNeed_15 : decode cX4_howManyNeed 15 = .ok (.aload_n 0, 1) := by decide +kernel
theorem dX4_howManyNeed_16 : decode cX4_howManyNeed 16 = .ok (.getfield 21, 3) := by decide +kernel
theorem dX4_howManyNeed_19 : decode cX4_howManyNeed 19 = .ok (.iload_n 3, 1) := by decide +kernel
theorem dX4_howManyNeed_20 : decode cX4_howManyNeed 20 = .ok (.iaload, 1) := by decide +kernel
theorem dX4_howManyNeed_21 : decode cX4_howManyNeed 21 = .ok (.iload_n 1, 1) := by decide +kernel
theorem dX4_howManyNeed_22 : decode cX4_howManyNeed 22 = .ok (.ishr, 1) := by decide +kernel
theorem dX4_howManyNeed_23 : decode cX4_howManyNeed 23 = .ok (.iconst 1, 1) := by decide +kernel
theorem dX4_howManyNeed_24 : decode cX4_howManyNeed 24 = .ok (.iand, 1) := by decide +kernel
theorem dX4_howManyNeed_25 : decode cX4_howManyNeed 25 = .ok (.iadd, 1) := by decide +kernel
theorem dX4_howManyNeed_26 : decode cX4_howManyNeed 26 = .ok (.istore_n 2, 1) := by decide +kernel
theorem dX4_howManyNeed_27 : decode cX4_howManyNeed 27 = .ok (.iinc 3 1, 3) := by decide +kernel
theorem dX4_howManyNeed_30 : decode cX4_howManyNeed 30 = .ok (.goto (-24), 3) := by decide +kernel
theorem dX4_howManyNeed_33 : decode cX4_howManyNeed 33 = .ok (.iload_n 2, 1) := by decide +kernel
theorem dX4_howManyNeed_34 : decode cX4_howManyNeed 34 = .ok (.ireturn, 1) := by decide +kernel
theorem dX4_everyPart_0 : decode cX4_everyPart 0 = .ok (.iconst 1, 1) := by decide +kernel
theorem dX4_everyPart_1 : decode cX4_everyPart 1 = .ok (.aload_n 0, 1) := by decide +kernel
theorem dX4_everyPart_2 : decode cX4_everyPart 2 = .ok (.getfield 24, 3) := by decide +kernel
theorem dX4_everyPart_5 : decode cX4_everyPart 5 = .ok (.ishl, 1) := by decide +kernel
theorem dX4_everyPart_6 : decode cX4_everyPart 6 = .ok (.iconst 1, 1) := by decide +kernel
theorem dX4_everyPart_7 : decode cX4_everyPart 7 = .ok (.isub, 1) := by decide +kernel
theorem dX4_everyPart_8 : decode cX4_everyPart 8 = .ok (.ireturn, 1) := by decide +kernel
theorem dX4_sumOfWords_0 : decode cX4_sumOfWords 0 = .ok (.iconst 0, 1) := by decide +kernel
theorem dX4_sumOfWords_1 : decode cX4_sumOfWords 1 = .ok (.istore_n 1, 1) := by decide +kernel
theorem dX4_sumOfWords_2 : decode cX4_sumOfWords 2 = .ok (.iconst 0, 1) := by decide +kernel
theorem dX4_sumOfWords_3 : decode cX4_sumOfWords 3 = .ok (.istore_n 2, 1) := by decide +kernel
theorem dX4_sumOfWords_4 : decode cX4_sumOfWords 4 = .ok (.iload_n 2, 1) := by decide +kernel
theorem dX4_sumOfWords_5 : decode cX4_sumOfWords 5 = .ok (.aload_n 0, 1) := by decide +kernel
theorem dX4_sumOfWords_6 : decode cX4_sumOfWords 6 = .ok (.getfield 24, 3) := by decide +kernel
theorem dX4_sumOfWords_9 : decode cX4_sumOfWords 9 = .ok (.if_icmp .ge 18, 3) := by decide +kernel
theorem dX4_sumOfWords_12 : decode cX4_sumOfWords 12 = .ok (.iload_n 1, 1) := by decide +kernel
theorem dX4_sumOfWords_13 : decode cX4_sumOfWords 13 = .ok (.aload_n 0, 1) := by decide +kernel
theorem dX4_sumOfWords_14 : decode cX4_sumOfWords 14 = .ok (.getfield 18, 3) := by decide +kernel
theorem dX4_sumOfWords_17 : decode cX4_sumOfWords 17 = .ok (.iload_n 2, 1) := by decide +kernel
theorem dX4_sumOfWords_18 : decode cX4_sumOfWords 18 = .ok (.iaload, 1) := by decide +kernel
theorem dX4_sumOfWords_19 : decode cX4_sumOfWords 19 = .ok (.iadd, 1) := by decide +kernel
theorem dX4_sumOfWords_20 : decode cX4_sumOfWords 20 = .ok (.istore_n 1, 1) := by decide +kernel
theorem dX4_sumOfWords_21 : decode cX4_sumOfWords 21 = .ok (.iinc 2 1, 3) := by decide +kernel
theorem dX4_sumOfWords_24 : decode cX4_sumOfWords 24 = .ok (.goto (-20), 3) := by decide +kernel
theorem dX4_sumOfWords_27 : decode cX4_sumOfWords 27 = .ok (.iload_n 1, 1) := by decide +kernel
theorem dX4_sumOfWords_28 : decode cX4_sumOfWords 28 = .ok (.ireturn, 1) := by decide +kernel
theorem dX4_howManyGoOnWith_0 : decode cX4_howManyGoOnWith 0 = .ok (.iconst 0, 1) := by decide +kernel
theorem dX4_howManyGoOnWith_1 : decode cX4_howManyGoOnWith 1 = .ok (.istore_n 2, 1) := by decide +kernel
theorem dX4_howManyGoOnWith_2 : decode cX4_howManyGoOnWith 2 = .ok (.iconst 0, 1) := by decide +kernel
theorem dX4_howManyGoOnWith_3 : decode cX4_howManyGoOnWith 3 = .ok (.istore_n 3, 1) := by decide +kernel
theorem dX4_howManyGoOnWith_4 : decode cX4_howManyGoOnWith 4 = .ok (.iload_n 3, 1) := by decide +kernel
theorem dX4_howManyGoOnWith_5 : decode cX4_howManyGoOnWith 5 = .ok (.aload_n 0, 1) := by decide +kernel
theorem dX4_howManyGoOnWith_6 : decode cX4_howManyGoOnWith 6 = .ok (.getfield 24, 3) := by decide +kernel
theorem dX4_howManyGoOnWith_9 : decode cX4_howManyGoOnWith 9 = .ok (.if_icmp .ge 22, 3) := by decide +kernel
theorem dX4_howManyGoOnWith_12 : decode cX4_howManyGoOnWith 12 = .ok (.iload_n 2, 1) := by decide +kernel
theorem dX4_howManyGoOnWith_13 : decode cX4_howManyGoOnWith 13 = .ok (.aload_n 0, 1) := by decide +kernel
theorem dX4_howManyGoOnWith_14 : decode cX4_howManyGoOnWith 14 = .ok (.getfield 9, 3) := by decide +kernel
theorem dX4_howManyGoOnWith_17 : decode cX4_howManyGoOnWith 17 = .ok (.iload_n 3, 1) := by decide +kernel
theorem dX4_howManyGoOnWith_18 : decode cX4_howManyGoOnWith 18 = .ok (.iaload, 1) := by decide +kernel
theorem dX4_howManyGoOnWith_19 : decode cX4_howManyGoOnWith 19 = .ok (.iload_n 1, 1) := by decide +kernel
theorem dX4_howManyGoOnWith_20 : decode cX4_howManyGoOnWith 20 = .ok (.ishr, 1) := by decide +kernel
theorem dX4_howManyGoOnWith_21 : decode cX4_howManyGoOnWith 21 = .ok (.iconst 1, 1) := by decide +kernel
theorem dX4_howManyGoOnWith_22 : decode cX4_howManyGoOnWith 22 = .ok (.iand, 1) := by decide +kernel
theorem dX4_howManyGoOnWith_23 : decode cX4_howManyGoOnWith 23 = .ok (.iadd, 1) := by decide +kernel
theorem dX4_howManyGoOnWith_24 : decode cX4_howManyGoOnWith 24 = .ok (.istore_n 2, 1) := by decide +kernel
theorem dX4_howManyGoOnWith_25 : decode cX4_howManyGoOnWith 25 = .ok (.iinc 3 1, 3) := by decide +kernel
theorem dX4_howManyGoOnWith_28 : decode cX4_howManyGoOnWith 28 = .ok (.goto (-24), 3) := by decide +kernel
theorem dX4_howManyGoOnWith_31 : decode cX4_howManyGoOnWith 31 = .ok (.iload_n 2, 1) := by decide +kernel
theorem dX4_howManyGoOnWith_32 : decode cX4_howManyGoOnWith 32 = .ok (.ireturn, 1) := by decide +kernel
theorem dX4_latestWith_0 : decode cX4_latestWith 0 = .ok (.aload_n 0, 1) := by decide +kernel
theorem dX4_latestWith_1 : decode cX4_latestWith 1 = .ok (.getfield 24, 3) := by decide +kernel
theorem dX4_latestWith_4 : decode cX4_latestWith 4 = .ok (.iconst 1, 1) := by decide +kernel
theorem dX4_latestWith_5 : decode cX4_latestWith 5 = .ok (.isub, 1) := by decide +kernel
theorem dX4_latestWith_6 : decode cX4_latestWith 6 = .ok (.istore_n 2, 1) := by decide +kernel
theorem dX4_latestWith_7 : decode cX4_latestWith 7 = .ok (.iload_n 2, 1) := by decide +kernel
theorem dX4_latestWith_8 : decode cX4_latestWith 8 = .ok (.ifCond .lt 24, 3) := by decide +kernel
theorem dX4_latestWith_11 : decode cX4_latestWith 11 = .ok (.aload_n 0, 1) := by decide +kernel
theorem dX4_latestWith_12 : decode cX4_latestWith 12 = .ok (.getfield 9, 3) := by decide +kernel
theorem dX4_latestWith_15 : decode cX4_latestWith 15 = .ok (.iload_n 2, 1) := by decide +kernel
theorem dX4_latestWith_16 : decode cX4_latestWith 16 = .ok (.iaload, 1) := by decide +kernel
theorem dX4_latestWith_17 : decode cX4_latestWith 17 = .ok (.iload_n 1, 1) := by decide +kernel
theorem dX4_latestWith_18 : decode cX4_latestWith 18 = .ok (.invokestatic 38, 3) := by decide +kernel
theorem dX4_latestWith_21 : decode cX4_latestWith 21 = .ok (.ifCond .eq 5, 3) := by decide +kernel
theorem dX4_latestWith_24 : decode cX4_latestWith 24 = .ok (.iload_n 2, 1) := by decide +kernel
theorem dX4_latestWith_25 : decode cX4_latestWith 25 = .ok (.ireturn, 1) := by decide +kernel
theorem dX4_latestWith_26 : decode cX4_latestWith 26 = .ok (.iinc 2 (-1), 3) := by decide +kernel
theorem dX4_latestWith_29 : decode cX4_latestWith 29 = .ok (.goto (-22), 3) := by decide +kernel
theorem dX4_latestWith_32 : decode cX4_latestWith 32 = .ok (.iconst (-1), 1) := by decide +kernel
theorem dX4_latestWith_33 : decode cX4_latestWith 33 = .ok (.ireturn, 1) := by decide +kernel
theorem dX4_howManyCliffs_0 : decode cX4_howManyCliffs 0 = .ok (.iconst 0, 1) := by decide +kernel
theorem dX4_howManyCliffs_1 : decode cX4_howManyCliffs 1 = .ok (.istore_n 2, 1) := by decide +kernel
theorem dX4_howManyCliffs_2 : decode cX4_howManyCliffs 2 = .ok (.iconst 0, 1) := by decide +kernel
theorem dX4_howManyCliffs_3 : decode cX4_howManyCliffs 3 = .ok (.istore_n 3, 1) := by decide +kernel
theorem dX4_howManyCliffs_4 : decode cX4_howManyCliffs 4 = .ok (.iload_n 3, 1) := by decide +kernel
theorem dX4_howManyCliffs_5 : decode cX4_howManyCliffs 5 = .ok (.aload_n 0, 1) := by decide +kernel
theorem dX4_howManyCliffs_6 : decode cX4_howManyCliffs 6 = .ok (.getfield 24, 3) := by decide +kernel
theorem dX4_howManyCliffs_9 : decode cX4_howManyCliffs 9 = .ok (.if_icmp .ge 22, 3) := by decide +kernel
theorem dX4_howManyCliffs_12 : decode cX4_howManyCliffs 12 = .ok (.aload_n 0, 1) := by decide +kernel
theorem dX4_howManyCliffs_13 : decode cX4_howManyCliffs 13 = .ok (.getfield 15, 3) := by decide +kernel
theorem dX4_howManyCliffs_16 : decode cX4_howManyCliffs 16 = .ok (.iload_n 3, 1) := by decide +kernel
theorem dX4_howManyCliffs_17 : decode cX4_howManyCliffs 17 = .ok (.iaload, 1) := by decide +kernel
theorem dX4_howManyCliffs_18 : decode cX4_howManyCliffs 18 = .ok (.iload_n 1, 1) := by decide +kernel
theorem dX4_howManyCliffs_19 : decode cX4_howManyCliffs 19 = .ok (.if_icmp .ne 6, 3) := by decide +kernel
theorem dX4_howManyCliffs_22 : decode cX4_howManyCliffs 22 = .ok (.iinc 2 1, 3) := by decide +kernel
theorem dX4_howManyCliffs_25 : decode cX4_howManyCliffs 25 = .ok (.iinc 3 1, 3) := by decide +kernel
theorem dX4_howManyCliffs_28 : decode cX4_howManyCliffs 28 = .ok (.goto (-24), 3) := by decide +kernel
theorem dX4_howManyCliffs_31 : decode cX4_howManyCliffs 31 = .ok (.iload_n 2, 1) := by decide +kernel
theorem dX4_howManyCliffs_32 : decode cX4_howManyCliffs 32 = .ok (.ireturn, 1) := by decide +kernel
theorem dX4_openCliffs_0 : decode cX4_openCliffs 0 = .ok (.iconst 0, 1) := by decide +kernel
theorem dX4_openCliffs_1 : decode cX4_openCliffs 1 = .ok (.istore_n 2, 1) := by decide +kernel
theorem dX4_openCliffs_2 : decode cX4_openCliffs 2 = .ok (.iconst 0, 1) := by decide +kernel
theorem dX4_openCliffs_3 : decode cX4_openCliffs 3 = .ok (.istore_n 3, 1) := by decide +kernel
theorem dX4_openCliffs_4 : decode cX4_openCliffs 4 = .ok (.aload_n 0, 1) := by decide +kernel
theorem dX4_openCliffs_5 : decode cX4_openCliffs 5 = .ok (.getfield 24, 3) := by decide +kernel
theorem dX4_openCliffs_8 : decode cX4_openCliffs 8 = .ok (.iconst 1, 1) := by decide +kernel
theorem dX4_openCliffs_9 : decode cX4_openCliffs 9 = .ok (.isub, 1) := by decide +kernel
theorem dX4_openCliffs_10 : decode cX4_openCliffs 10 = .ok (.istore 4, 2) := by decide +kernel
theorem dX4_openCliffs_12 : decode cX4_openCliffs 12 = .ok (.iload 4, 2) := by decide +kernel
theorem dX4_openCliffs_14 : decode cX4_openCliffs 14 = .ok (.ifCond .lt 65, 3) := by decide +kernel
theorem dX4_openCliffs_17 : decode cX4_openCliffs 17 = .ok (.iload_n 1, 1) := by decide +kernel
theorem dX4_openCliffs_18 : decode cX4_openCliffs 18 = .ok (.iload 4, 2) := by decide +kernel
theorem dX4_openCliffs_20 : decode cX4_openCliffs 20 = .ok (.invokestatic 38, 3) := by decide +kernel
theorem dX4_openCliffs_23 : decode cX4_openCliffs 23 = .ok (.ifCond .eq 50, 3) := by decide +kernel
theorem dX4_openCliffs_26 : decode cX4_openCliffs 26 = .ok (.aload_n 0, 1) := by decide +kernel
theorem dX4_openCliffs_27 : decode cX4_openCliffs 27 = .ok (.getfield 15, 3) := by decide +kernel
theorem dX4_openCliffs_30 : decode cX4_openCliffs 30 = .ok (.iload 4, 2) := by decide +kernel
theorem dX4_openCliffs_32 : decode cX4_openCliffs 32 = .ok (.iaload, 1) := by decide +kernel
theorem dX4_openCliffs_33 : decode cX4_openCliffs 33 = .ok (.iconst (-1), 1) := by decide +kernel
theorem dX4_openCliffs_34 : decode cX4_openCliffs 34 = .ok (.if_icmp .eq 29, 3) := by decide +kernel
theorem dX4_openCliffs_37 : decode cX4_openCliffs 37 = .ok (.iload_n 3, 1) := by decide +kernel
theorem dX4_openCliffs_38 : decode cX4_openCliffs 38 = .ok (.aload_n 0, 1) := by decide +kernel
theorem dX4_openCliffs_39 : decode cX4_openCliffs 39 = .ok (.getfield 15, 3) := by decide +kernel
theorem dX4_openCliffs_42 : decode cX4_openCliffs 42 = .ok (.iload 4, 2) := by decide +kernel
theorem dX4_openCliffs_44 : decode cX4_openCliffs 44 = .ok (.iaload, 1) := by decide +kernel
theorem dX4_openCliffs_45 : decode cX4_openCliffs 45 = .ok (.invokestatic 38, 3) := by decide +kernel
theorem dX4_openCliffs_48 : decode cX4_openCliffs 48 = .ok (.ifCond .ne 15, 3) := by decide +kernel
theorem dX4_openCliffs_51 : decode cX4_openCliffs 51 = .ok (.iload_n 2, 1) := by decide +kernel
theorem dX4_openCliffs_52 : decode cX4_openCliffs 52 = .ok (.iconst 1, 1) := by decide +kernel
theorem dX4_openCliffs_53 : decode cX4_openCliffs 53 = .ok (.aload_n 0, 1) := by decide +kernel
theorem dX4_openCliffs_54 : decode cX4_openCliffs 54 = .ok (.getfield 15, 3) := by decide +kernel
theorem dX4_openCliffs_57 : decode cX4_openCliffs 57 = .ok (.iload 4, 2) := by decide +kernel
theorem dX4_openCliffs_59 : decode cX4_openCliffs 59 = .ok (.iaload, 1) := by decide +kernel
theorem dX4_openCliffs_60 : decode cX4_openCliffs 60 = .ok (.ishl, 1) := by decide +kernel
theorem dX4_openCliffs_61 : decode cX4_openCliffs 61 = .ok (.ior, 1) := by decide +kernel
theorem dX4_openCliffs_62 : decode cX4_openCliffs 62 = .ok (.istore_n 2, 1) := by decide +kernel
theorem dX4_openCliffs_63 : decode cX4_openCliffs 63 = .ok (.iload_n 3, 1) := by decide +kernel
theorem dX4_openCliffs_64 : decode cX4_openCliffs 64 = .ok (.aload_n 0, 1) := by decide +kernel
theorem dX4_openCliffs_65 : decode cX4_openCliffs 65 = .ok (.getfield 9, 3) := by decide +kernel
theorem dX4_openCliffs_68 : decode cX4_openCliffs 68 = .ok (.iload 4, 2) := by decide +kernel
theorem dX4_openCliffs_70 : decode cX4_openCliffs 70 = .ok (.iaload, 1) := by decide +kernel
theorem dX4_openCliffs_71 : decode cX4_openCliffs 71 = .ok (.ior, 1) := by decide +kernel
theorem dX4_openCliffs_72 : decode cX4_openCliffs 72 = .ok (.istore_n 3, 1) := by decide +kernel
theorem dX4_openCliffs_73 : decode cX4_openCliffs 73 = .ok (.iinc 4 (-1), 3) := by decide +kernel
theorem dX4_openCliffs_76 : decode cX4_openCliffs 76 = .ok (.goto (-64), 3) := by decide +kernel
theorem dX4_openCliffs_79 : decode cX4_openCliffs 79 = .ok (.iload_n 2, 1) := by decide +kernel
theorem dX4_openCliffs_80 : decode cX4_openCliffs 80 = .ok (.ireturn, 1) := by decide +kernel
theorem dX5_init_0 : decode cX5_init 0 = .ok (.aload_n 0, 1) := by decide +kernel
theorem dX5_init_1 : decode cX5_init 1 = .ok (.invokespecial 3, 3) := by decide +kernel
theorem dX5_init_4 : decode cX5_init 4 = .ok (.aload_n 0, 1) := by decide +kernel
theorem dX5_init_5 : decode cX5_init 5 = .ok (.bipush 60, 2) := by decide +kernel
theorem dX5_init_7 : decode cX5_init 7 = .ok (.newarray .int, 2) := by decide +kernel
theorem dX5_init_9 : decode cX5_init 9 = .ok (.putfield 9, 3) := by decide +kernel
theorem dX5_init_12 : decode cX5_init 12 = .ok (.aload_n 0, 1) := by decide +kernel
theorem dX5_init_13 : decode cX5_init 13 = .ok (.new 15, 3) := by decide +kernel
theorem dX5_init_16 : decode cX5_init 16 = .ok (.dup, 1) := by decide +kernel
theorem dX5_init_17 : decode cX5_init 17 = .ok (.invokespecial 17, 3) := by decide +kernel
theorem dX5_init_20 : decode cX5_init 20 = .ok (.putfield 18, 3) := by decide +kernel
theorem dX5_init_23 : decode cX5_init 23 = .ok (.return_, 1) := by decide +kernel
theorem dX5_put_0 : decode cX5_put 0 = .ok (.aload_n 0, 1) := by decide +kernel
theorem dX5_put_1 : decode cX5_put 1 = .ok (.getfield 9, 3) := by decide +kernel
theorem dX5_put_4 : decode cX5_put 4 = .ok (.aload_n 0, 1) := by decide +kernel
theorem dX5_put_5 : decode cX5_put 5 = .ok (.getfield 22, 3) := by decide +kernel
theorem dX5_put_8 : decode cX5_put 8 = .ok (.iload_n 1, 1) := by decide +kernel
theorem dX5_put_9 : decode cX5_put 9 = .ok (.iastore, 1) := by decide +kernel
theorem dX5_put_10 : decode cX5_put 10 = .ok (.aload_n 0, 1) := by decide +kernel
theorem dX5_put_11 : decode cX5_put 11 = .ok (.dup, 1) := by decide +kernel
theorem dX5_put_12 : decode cX5_put 12 = .ok (.getfield 22, 3) := by decide +kernel
theorem dX5_put_15 : decode cX5_put 15 = .ok (.iconst 1, 1) := by decide +kernel
theorem dX5_put_16 : decode cX5_put 16 = .ok (.iadd, 1) := by decide +kernel
theorem dX5_put_17 : decode cX5_put 17 = .ok (.putfield 22, 3) := by decide +kernel
theorem dX5_put_20 : decode cX5_put 20 = .ok (.return_, 1) := by decide +kernel
theorem dX5_readUntilError_0 : decode cX5_readUntilError 0 = .ok (.aload_n 0, 1) := by decide +kernel
theorem dX5_readUntilError_1 : decode cX5_readUntilError 1 = .ok (.getfield 18, 3) := by decide +kernel
theorem dX5_readUntilError_4 : decode cX5_readUntilError 4 = .ok (.invokevirtual 26, 3) := by decide +kernel
theorem dX5_readUntilError_7 : decode cX5_readUntilError 7 = .ok (.iconst 0, 1) := by decide +kernel
theorem dX5_readUntilError_8 : decode cX5_readUntilError 8 = .ok (.istore_n 1, 1) := by decide +kernel
theorem dX5_readUntilError_9 : decode cX5_readUntilError 9 = .ok (.iload_n 1, 1) := by decide +kernel
theorem dX5_readUntilError_10 : decode cX5_readUntilError 10 = .ok (.aload_n 0, 1) := by decide +kernel
theorem dX5_readUntilError_11 : decode cX5_readUntilError 11 = .ok (.getfield 22, 3) := by decide +kernel
theorem dX5_readUntilError_14 : decode cX5_readUntilError 14 = .ok (.if_icmp .ge 27, 3) := by decide +kernel
theorem dX5_readUntilError_17 : decode cX5_readUntilError 17 = .ok (.aload_n 0, 1) := by decide +kernel
theorem dX5_readUntilError_18 : decode cX5_readUntilError 18 = .ok (.getfield 18, 3) := by decide +kernel
theorem dX5_readUntilError_21 : decode cX5_readUntilError 21 = .ok (.aload_n 0, 1) := by decide +kernel
theorem dX5_readUntilError_22 : decode cX5_readUntilError 22 = .ok (.getfield 9, 3) := by decide +kernel
theorem dX5_readUntilError_25 : decode cX5_readUntilError 25 = .ok (.iload_n 1, 1) := by decide +kernel
theorem dX5_readUntilError_26 : decode cX5_readUntilError 26 = .ok (.iaload, 1) := by decide +kernel
theorem dX5_readUntilError_27 : decode cX5_readUntilError 27 = .ok (.invokevirtual 29, 3) := by decide +kernel
theorem dX5_readUntilError_30 : decode cX5_readUntilError 30 = .ok (.ifCond .ne 5, 3) := by decide +kernel
theorem dX5_readUntilError_33 : decode cX5_readUntilError 33 = .ok (.iload_n 1, 1) := by decide +kernel
theorem dX5_readUntilError_34 : decode cX5_readUntilError 34 = .ok (.ireturn, 1) := by decide +kernel
theorem dX5_readUntilError_35 : decode cX5_readUntilError 35 = .ok (.iinc 1 1, 3) := by decide +kernel
theorem dX5_readUntilError_38 : decode cX5_readUntilError 38 = .ok (.goto (-29), 3) := by decide +kernel
theorem dX5_readUntilError_41 : decode cX5_readUntilError 41 = .ok (.aload_n 0, 1) := by decide +kernel
theorem dX5_readUntilError_42 : decode cX5_readUntilError 42 = .ok (.getfield 22, 3) := by decide +kernel
theorem dX5_readUntilError_45 : decode cX5_readUntilError 45 = .ok (.ireturn, 1) := by decide +kernel
theorem dX5_isComplete_0 : decode cX5_isComplete 0 = .ok (.aload_n 0, 1) := by decide +kernel
theorem dX5_isComplete_1 : decode cX5_isComplete 1 = .ok (.invokevirtual 33, 3) := by decide +kernel
theorem dX5_isComplete_4 : decode cX5_isComplete 4 = .ok (.aload_n 0, 1) := by decide +kernel
theorem dX5_isComplete_5 : decode cX5_isComplete 5 = .ok (.getfield 22, 3) := by decide +kernel
theorem dX5_isComplete_8 : decode cX5_isComplete 8 = .ok (.if_icmp .ne 17, 3) := by decide +kernel
theorem dX5_isComplete_11 : decode cX5_isComplete 11 = .ok (.aload_n 0, 1) := by decide +kernel
theorem dX5_isComplete_12 : decode cX5_isComplete 12 = .ok (.getfield 18, 3) := by decide +kernel
theorem dX5_isComplete_15 : decode cX5_isComplete 15 = .ok (.invokevirtual 37, 3) := by decide +kernel
theorem dX5_isComplete_18 : decode cX5_isComplete 18 = .ok (.ifCond .eq 7, 3) := by decide +kernel
theorem dX5_isComplete_21 : decode cX5_isComplete 21 = .ok (.iconst 1, 1) := by decide +kernel
theorem dX5_isComplete_22 : decode cX5_isComplete 22 = .ok (.goto 4, 3) := by decide +kernel
theorem dX5_isComplete_25 : decode cX5_isComplete 25 = .ok (.iconst 0, 1) := by decide +kernel
theorem dX5_isComplete_26 : decode cX5_isComplete 26 = .ok (.ireturn, 1) := by decide +kernel
theorem dX5_completeParts_0 : decode cX5_completeParts 0 = .ok (.iconst 1, 1) := by decide +kernel
theorem dX5_completeParts_1 : decode cX5_completeParts 1 = .ok (.istore_n 1, 1) := by decide +kernel
theorem dX5_completeParts_2 : decode cX5_completeParts 2 = .ok (.iconst 0, 1) := by decide +kernel
theorem dX5_completeParts_3 : decode cX5_completeParts 3 = .ok (.istore_n 2, 1) := by decide +kernel
theorem dX5_completeParts_4 : decode cX5_completeParts 4 = .ok (.iload_n 2, 1) := by decide +kernel
theorem dX5_completeParts_5 : decode cX5_completeParts 5 = .ok (.aload_n 0, 1) := by decide +kernel
theorem dX5_completeParts_6 : decode cX5_completeParts 6 = .ok (.getfield 22, 3) := by decide +kernel
theorem dX5_completeParts_9 : decode cX5_completeParts 9 = .ok (.if_icmp .ge 23, 3) := by decide +kernel
theorem dX5_completeParts_12 : decode cX5_completeParts 12 = .ok (.aload_n 0, 1) := by decide +kernel
theorem dX5_completeParts_13 : decode cX5_completeParts 13 = .ok (.getfield 9, 3) := by decide +kernel
theorem dX5_completeParts_16 : decode cX5_completeParts 16 = .ok (.iload_n 2, 1) := by decide +kernel
theorem dX5_completeParts_17 : decode cX5_completeParts 17 = .ok (.iaload, 1) := by decide +kernel
theorem dX5_completeParts_18 : decode cX5_completeParts 18 = .ok (.bipush 59, 2) := by decide +kernel
theorem dX5_completeParts_20 : decode cX5_completeParts 20 = .ok (.if_icmp .ne 6, 3) := by decide +kernel
theorem dX5_completeParts_23 : decode cX5_completeParts 23 = .ok (.iinc 1 1, 3) := by decide +kernel
theorem dX5_completeParts_26 : decode cX5_completeParts 26 = .ok (.iinc 2 1, 3) := by decide +kernel
theorem dX5_completeParts_29 : decode cX5_completeParts 29 = .ok (.goto (-25), 3) := by decide +kernel
theorem dX5_completeParts_32 : decode cX5_completeParts 32 = .ok (.iload_n 1, 1) := by decide +kernel
theorem dX5_completeParts_33 : decode cX5_completeParts 33 = .ok (.ireturn, 1) := by decide +kernel
theorem dX5_tellTo_0 : decode cX5_tellTo 0 = .ok (.aload_n 0, 1) := by decide +kernel
theorem dX5_tellTo_1 : decode cX5_tellTo 1 = .ok (.getfield 18, 3) := by decide +kernel
theorem dX5_tellTo_4 : decode cX5_tellTo 4 = .ok (.invokevirtual 26, 3) := by decide +kernel
theorem dX5_tellTo_7 : decode cX5_tellTo 7 = .ok (.iconst 0, 1) := by decide +kernel
theorem dX5_tellTo_8 : decode cX5_tellTo 8 = .ok (.istore_n 2, 1) := by decide +kernel
theorem dX5_tellTo_9 : decode cX5_tellTo 9 = .ok (.iload_n 2, 1) := by decide +kernel
theorem dX5_tellTo_10 : decode cX5_tellTo 10 = .ok (.aload_n 0, 1) := by decide +kernel
theorem dX5_tellTo_11 : decode cX5_tellTo 11 = .ok (.getfield 22, 3) := by decide +kernel
theorem dX5_tellTo_14 : decode cX5_tellTo 14 = .ok (.if_icmp .ge 59, 3) := by decide +kernel
theorem dX5_tellTo_17 : decode cX5_tellTo 17 = .ok (.aload_n 0, 1) := by decide +kernel
theorem dX5_tellTo_18 : decode cX5_tellTo 18 = .ok (.getfield 9, 3) := by decide +kernel
theorem dX5_tellTo_21 : decode cX5_tellTo 21 = .ok (.iload_n 2, 1) := by decide +kernel
theorem dX5_tellTo_22 : decode cX5_tellTo 22 = .ok (.iaload, 1) := by decide +kernel
theorem dX5_tellTo_23 : decode cX5_tellTo 23 = .ok (.bipush 59, 2) := by decide +kernel
theorem dX5_tellTo_25 : decode cX5_tellTo 25 = .ok (.if_icmp .ne 28, 3) := by decide +kernel
theorem dX5_tellTo_28 : decode cX5_tellTo 28 = .ok (.aload_n 1, 1) := by decide +kernel
theorem dX5_tellTo_29 : decode cX5_tellTo 29 = .ok (.aload_n 0, 1) := by decide +kernel
theorem dX5_tellTo_30 : decode cX5_tellTo 30 = .ok (.getfield 18, 3) := by decide +kernel
theorem dX5_tellTo_33 : decode cX5_tellTo 33 = .ok (.getfield 41, 3) := by decide +kernel
theorem dX5_tellTo_36 : decode cX5_tellTo 36 = .ok (.aload_n 0, 1) := by decide +kernel
theorem dX5_tellTo_37 : decode cX5_tellTo 37 = .ok (.getfield 18, 3) := by decide +kernel
theorem dX5_tellTo_40 : decode cX5_tellTo 40 = .ok (.getfield 44, 3) := by decide +kernel
theorem dX5_tellTo_43 : decode cX5_tellTo 43 = .ok (.aload_n 0, 1) := by decide +kernel
theorem dX5_tellTo_44 : decode cX5_tellTo 44 = .ok (.getfield 18, 3) := by decide +kernel
theorem dX5_tellTo_47 : decode cX5_tellTo 47 = .ok (.getfield 47, 3) := by decide +kernel
theorem dX5_tellTo_50 : decode cX5_tellTo 50 = .ok (.invokevirtual 50, 3) := by decide +kernel
theorem dX5_tellTo_53 : decode cX5_tellTo 53 = .ok (.aload_n 0, 1) := by decide +kernel
theorem dX5_tellTo_54 : decode cX5_tellTo 54 = .ok (.getfield 18, 3) := by decide +kernel
theorem dX5_tellTo_57 : decode cX5_tellTo 57 = .ok (.aload_n 0, 1) := by decide +kernel
theorem dX5_tellTo_58 : decode cX5_tellTo 58 = .ok (.getfield 9, 3) := by decide +kernel
theorem dX5_tellTo_61 : decode cX5_tellTo 61 = .ok (.iload_n 2, 1) := by decide +kernel
theorem dX5_tellTo_62 : decode cX5_tellTo 62 = .ok (.iaload, 1) := by decide +kernel
theorem dX5_tellTo_63 : decode cX5_tellTo 63 = .ok (.invokevirtual 29, 3) := by decide +kernel
theorem dX5_tellTo_66 : decode cX5_tellTo 66 = .ok (.pop, 1) := by decide +kernel
theorem dX5_tellTo_67 : decode cX5_tellTo 67 = .ok (.iinc 2 1, 3) := by decide +kernel
theorem dX5_tellTo_70 : decode cX5_tellTo 70 = .ok (.goto (-61), 3) := by decide +kernel
theorem dX5_tellTo_73 : decode cX5_tellTo 73 = .ok (.aload_n 1, 1) := by decide +kernel
theorem dX5_tellTo_74 : decode cX5_tellTo 74 = .ok (.aload_n 0, 1) := by decide +kernel
theorem dX5_tellTo_75 : decode cX5_tellTo 75 = .ok (.getfield 18, 3) := by decide +kernel
theorem dX5_tellTo_78 : decode cX5_tellTo 78 = .ok (.getfield 41, 3) := by decide +kernel
theorem dX5_tellTo_81 : decode cX5_tellTo 81 = .ok (.aload_n 0, 1) := by decide +kernel
theorem dX5_tellTo_82 : decode cX5_tellTo 82 = .ok (.getfield 18, 3) := by decide +kernel
theorem dX5_tellTo_85 : decode cX5_tellTo 85 = .ok (.getfield 44, 3) := by decide +kernel
theorem dX5_tellTo_88 : decode cX5_tellTo 88 = .ok (.aload_n 0, 1) := by decide +kernel
theorem dX5_tellTo_89 : decode cX5_tellTo 89 = .ok (.getfield 18, 3) := by decide +kernel
theorem dX5_tellTo_92 : decode cX5_tellTo 92 = .ok (.getfield 47, 3) := by decide +kernel
theorem dX5_tellTo_95 : decode cX5_tellTo 95 = .ok (.invokevirtual 50, 3) := by decide +kernel
theorem dX5_tellTo_98 : decode cX5_tellTo 98 = .ok (.return_, 1) := by decide +kernel
theorem dX6_init_0 : decode cX6_init 0 = .ok (.aload_n 0, 1) := by decide +kernel
theorem dX6_init_1 : decode cX6_init 1 = .ok (.invokespecial 1, 3) := by decide +kernel
theorem dX6_init_4 : decode cX6_init 4 = .ok (.aload_n 0, 1) := by decide +kernel
theorem dX6_init_5 : decode cX6_init 5 = .ok (.new 7, 3) := by decide +kernel
theorem dX6_init_8 : decode cX6_init 8 = .ok (.dup, 1) := by decide +kernel
theorem dX6_init_9 : decode cX6_init 9 = .ok (.invokespecial 9, 3) := by decide +kernel
theorem dX6_init_12 : decode cX6_init 12 = .ok (.putfield 10, 3) := by decide +kernel
theorem dX6_init_15 : decode cX6_init 15 = .ok (.aload_n 0, 1) := by decide +kernel
theorem dX6_init_16 : decode cX6_init 16 = .ok (.new 16, 3) := by decide +kernel
theorem dX6_init_19 : decode cX6_init 19 = .ok (.dup, 1) := by decide +kernel
theorem dX6_init_20 : decode cX6_init 20 = .ok (.invokespecial 18, 3) := by decide +kernel
theorem dX6_init_23 : decode cX6_init 23 = .ok (.putfield 19, 3) := by decide +kernel
theorem dX6_init_26 : decode cX6_init 26 = .ok (.aload_n 0, 1) := by decide +kernel
theorem dX6_init_27 : decode cX6_init 27 = .ok (.new 23, 3) := by decide +kernel
theorem dX6_init_30 : decode cX6_init 30 = .ok (.dup, 1) := by decide +kernel
theorem dX6_init_31 : decode cX6_init 31 = .ok (.invokespecial 25, 3) := by decide +kernel
theorem dX6_init_34 : decode cX6_init 34 = .ok (.putfield 26, 3) := by decide +kernel
theorem dX6_init_37 : decode cX6_init 37 = .ok (.return_, 1) := by decide +kernel
theorem dX6_add_0 : decode cX6_add 0 = .ok (.iload_n 1, 1) := by decide +kernel
theorem dX6_add_1 : decode cX6_add 1 = .ok (.iload_n 2, 1) := by decide +kernel
theorem dX6_add_2 : decode cX6_add 2 = .ok (.invokestatic 30, 3) := by decide +kernel
theorem dX6_add_5 : decode cX6_add 5 = .ok (.iload_n 3, 1) := by decide +kernel
theorem dX6_add_6 : decode cX6_add 6 = .ok (.iconst 1, 1) := by decide +kernel
theorem dX6_add_7 : decode cX6_add 7 = .ok (.if_icmp .lt 9, 3) := by decide +kernel
theorem dX6_add_10 : decode cX6_add 10 = .ok (.iload_n 3, 1) := by decide +kernel
theorem dX6_add_11 : decode cX6_add 11 = .ok (.bipush 99, 2) := by decide +kernel
theorem dX6_add_13 : decode cX6_add 13 = .ok (.if_icmp .le 13, 3) := by decide +kernel
theorem dX6_add_16 : decode cX6_add 16 = .ok (.new 34, 3) := by decide +kernel
theorem dX6_add_19 : decode cX6_add 19 = .ok (.dup, 1) := by decide +kernel
theorem dX6_add_20 : decode cX6_add 20 = .ok (.ldc 36, 2) := by decide +kernel
theorem dX6_add_22 : decode cX6_add 22 = .ok (.invokespecial 38, 3) := by decide +kernel
theorem dX6_add_25 : decode cX6_add 25 = .ok (.athrow, 1) := by decide +kernel
theorem dX6_add_26 : decode cX6_add 26 = .ok (.aload_n 0, 1) := by decide +kernel
theorem dX6_add_27 : decode cX6_add 27 = .ok (.getfield 10, 3) := by decide +kernel
theorem dX6_add_30 : decode cX6_add 30 = .ok (.getfield 41, 3) := by decide +kernel
theorem dX6_add_33 : decode cX6_add 33 = .ok (.getfield 45, 3) := by decide +kernel
theorem dX6_add_36 : decode cX6_add 36 = .ok (.bipush 20, 2) := by decide +kernel
theorem dX6_add_38 : decode cX6_add 38 = .ok (.if_icmp .lt 13, 3) := by decide +kernel
theorem dX6_add_41 : decode cX6_add 41 = .ok (.new 51, 3) := by decide +kernel
theorem dX6_add_44 : decode cX6_add 44 = .ok (.dup, 1) := by decide +kernel
theorem dX6_add_45 : decode cX6_add 45 = .ok (.ldc 53, 2) := by decide +kernel
theorem dX6_add_47 : decode cX6_add 47 = .ok (.invokespecial 55, 3) := by decide +kernel
theorem dX6_add_50 : decode cX6_add 50 = .ok (.athrow, 1) := by decide +kernel
theorem dX6_add_51 : decode cX6_add 51 = .ok (.aload_n 0, 1) := by decide +kernel
theorem dX6_add_52 : decode cX6_add 52 = .ok (.getfield 19, 3) := by decide +kernel
theorem dX6_add_55 : decode cX6_add 55 = .ok (.aload_n 0, 1) := by decide +kernel
theorem dX6_add_56 : decode cX6_add 56 = .ok (.getfield 10, 3) := by decide +kernel
theorem dX6_add_59 : decode cX6_add 59 = .ok (.invokevirtual 56, 3) := by decide +kernel
theorem dX6_add_62 : decode cX6_add 62 = .ok (.aload_n 0, 1) := by decide +kernel
theorem dX6_add_63 : decode cX6_add 63 = .ok (.getfield 10, 3) := by decide +kernel
theorem dX6_add_66 : decode cX6_add 66 = .ok (.getfield 41, 3) := by decide +kernel
theorem dX6_add_69 : decode cX6_add 69 = .ok (.iload_n 1, 1) := by decide +kernel
theorem dX6_add_70 : decode cX6_add 70 = .ok (.iload_n 2, 1) := by decide +kernel
theorem dX6_add_71 : decode cX6_add 71 = .ok (.iload_n 3, 1) := by decide +kernel
theorem dX6_add_72 : decode cX6_add 72 = .ok (.invokevirtual 60, 3) := by decide +kernel
theorem dX6_add_75 : decode cX6_add 75 = .ok (.aload_n 0, 1) := by decide +kernel
theorem dX6_add_76 : decode cX6_add 76 = .ok (.getfield 10, 3) := by decide +kernel
theorem dX6_add_79 : decode cX6_add 79 = .ok (.getfield 41, 3) := by decide +kernel
theorem dX6_add_82 : decode cX6_add 82 = .ok (.getfield 45, 3) := by decide +kernel
theorem dX6_add_85 : decode cX6_add 85 = .ok (.iconst 1, 1) := by decide +kernel
theorem dX6_add_86 : decode cX6_add 86 = .ok (.isub, 1) := by decide +kernel
theorem dX6_add_87 : decode cX6_add 87 = .ok (.ireturn, 1) := by decide +kernel
theorem dX6_change_0 : decode cX6_change 0 = .ok (.aload_n 0, 1) := by decide +kernel
theorem dX6_change_1 : decode cX6_change 1 = .ok (.iload_n 1, 1) := by decide +kernel
theorem dX6_change_2 : decode cX6_change 2 = .ok (.invokevirtual 64, 3) := by decide +kernel
theorem dX6_change_5 : decode cX6_change 5 = .ok (.iload_n 2, 1) := by decide +kernel
theorem dX6_change_6 : decode cX6_change 6 = .ok (.iload_n 3, 1) := by decide +kernel
theorem dX6_change_7 : decode cX6_change 7 = .ok (.invokestatic 30, 3) := by decide +kernel
theorem dX6_change_10 : decode cX6_change 10 = .ok (.aload_n 0, 1) := by decide +kernel
theorem dX6_change_11 : decode cX6_change 11 = .ok (.getfield 19, 3) := by decide +kernel
theorem dX6_change_14 : decode cX6_change 14 = .ok (.aload_n 0, 1) := by decide +kernel
theorem dX6_change_15 : decode cX6_change 15 = .ok (.getfield 10, 3) := by decide +kernel
theorem dX6_change_18 : decode cX6_change 18 = .ok (.invokevirtual 56, 3) := by decide +kernel
theorem dX6_change_21 : decode cX6_change 21 = .ok (.aload_n 0, 1) := by decide +kernel
theorem dX6_change_22 : decode cX6_change 22 = .ok (.getfield 10, 3) := by decide +kernel
theorem dX6_change_25 : decode cX6_change 25 = .ok (.getfield 41, 3) := by decide +kernel
theorem dX6_change_28 : decode cX6_change 28 = .ok (.iload_n 1, 1) := by decide +kernel
theorem dX6_change_29 : decode cX6_change 29 = .ok (.iload_n 2, 1) := by decide +kernel
theorem dX6_change_30 : decode cX6_change 30 = .ok (.iload_n 3, 1) := by decide +kernel
theorem dX6_change_31 : decode cX6_change 31 = .ok (.invokevirtual 68, 3) := by decide +kernel
theorem dX6_change_34 : decode cX6_change 34 = .ok (.ireturn, 1) := by decide +kernel
theorem dX6_removeLast_0 : decode cX6_removeLast 0 = .ok (.aload_n 0, 1) := by decide +kernel
theorem dX6_removeLast_1 : decode cX6_removeLast 1 = .ok (.getfield 10, 3) := by decide +kernel
theorem dX6_removeLast_4 : decode cX6_removeLast 4 = .ok (.getfield 41, 3) := by decide +kernel
theorem dX6_removeLast_7 : decode cX6_removeLast 7 = .ok (.getfield 45, 3) := by decide +kernel
theorem dX6_removeLast_10 : decode cX6_removeLast 10 = .ok (.iconst 1, 1) := by decide +kernel
theorem dX6_removeLast_11 : decode cX6_removeLast 11 = .ok (.if_icmp .ge 13, 3) := by decide +kernel
theorem dX6_removeLast_14 : decode cX6_removeLast 14 = .ok (.new 51, 3) := by decide +kernel
theorem dX6_removeLast_17 : decode cX6_removeLast 17 = .ok (.dup, 1) := by decide +kernel
theorem dX6_removeLast_18 : decode cX6_removeLast 18 = .ok (.ldc 72, 2) := by decide +kernel
theorem dX6_removeLast_20 : decode cX6_removeLast 20 = .ok (.invokespecial 55, 3) := by decide +kernel
theorem dX6_removeLast_23 : decode cX6_removeLast 23 = .ok (.athrow, 1) := by decide +kernel
theorem dX6_removeLast_24 : decode cX6_removeLast 24 = .ok (.aload_n 0, 1) := by decide +kernel
theorem dX6_removeLast_25 : decode cX6_removeLast 25 = .ok (.getfield 19, 3) := by decide +kernel
theorem dX6_removeLast_28 : decode cX6_removeLast 28 = .ok (.aload_n 0, 1) := by decide +kernel
theorem dX6_removeLast_29 : decode cX6_removeLast 29 = .ok (.getfield 10, 3) := by decide +kernel
theorem dX6_removeLast_32 : decode cX6_removeLast 32 = .ok (.invokevirtual 56, 3) := by decide +kernel
theorem dX6_removeLast_35 : decode cX6_removeLast 35 = .ok (.aload_n 0, 1) := by decide +kernel
theorem dX6_removeLast_36 : decode cX6_removeLast 36 = .ok (.getfield 10, 3) := by decide +kernel
theorem dX6_removeLast_39 : decode cX6_removeLast 39 = .ok (.getfield 41, 3) := by decide +kernel
theorem dX6_removeLast_42 : decode cX6_removeLast 42 = .ok (.getfield 45, 3) := by decide +kernel
theorem dX6_removeLast_45 : decode cX6_removeLast 45 = .ok (.iconst 1, 1) := by decide +kernel
theorem dX6_removeLast_46 : decode cX6_removeLast 46 = .ok (.isub, 1) := by decide +kernel
theorem dX6_removeLast_47 : decode cX6_removeLast 47 = .ok (.istore_n 1, 1) := by decide +kernel
theorem dX6_removeLast_48 : decode cX6_removeLast 48 = .ok (.aload_n 0, 1) := by decide +kernel
theorem dX6_removeLast_49 : decode cX6_removeLast 49 = .ok (.getfield 10, 3) := by decide +kernel
theorem dX6_removeLast_52 : decode cX6_removeLast 52 = .ok (.getfield 74, 3) := by decide +kernel
theorem dX6_removeLast_55 : decode cX6_removeLast 55 = .ok (.iload_n 1, 1) := by decide +kernel
theorem dX6_removeLast_56 : decode cX6_removeLast 56 = .ok (.invokevirtual 78, 3) := by decide +kernel
theorem dX6_removeLast_59 : decode cX6_removeLast 59 = .ok (.invokestatic 84, 3) := by decide +kernel
theorem dX6_removeLast_62 : decode cX6_removeLast 62 = .ok (.istore_n 2, 1) := by decide +kernel
theorem dX6_removeLast_63 : decode cX6_removeLast 63 = .ok (.aload_n 0, 1) := by decide +kernel
theorem dX6_removeLast_64 : decode cX6_removeLast 64 = .ok (.getfield 10, 3) := by decide +kernel
theorem dX6_removeLast_67 : decode cX6_removeLast 67 = .ok (.getfield 74, 3) := by decide +kernel
theorem dX6_removeLast_70 : decode cX6_removeLast 70 = .ok (.iload_n 1, 1) := by decide +kernel
theorem dX6_removeLast_71 : decode cX6_removeLast 71 = .ok (.invokevirtual 89, 3) := by decide +kernel
theorem dX6_removeLast_74 : decode cX6_removeLast 74 = .ok (.aload_n 0, 1) := by decide +kernel
theorem dX6_removeLast_75 : decode cX6_removeLast 75 = .ok (.getfield 10, 3) := by decide +kernel
theorem dX6_removeLast_78 : decode cX6_removeLast 78 = .ok (.getfield 41, 3) := by decide +kernel
theorem dX6_removeLast_81 : decode cX6_removeLast 81 = .ok (.iload_n 1, 1) := by decide +kernel
theorem dX6_removeLast_82 : decode cX6_removeLast 82 = .ok (.putfield 45, 3) := by decide +kernel
theorem dX6_removeLast_85 : decode cX6_removeLast 85 = .ok (.iload_n 2, 1) := by decide +kernel
theorem dX6_removeLast_86 : decode cX6_removeLast 86 = .ok (.ireturn, 1) := by decide +kernel
theorem dX6_set_0 : decode cX6_set 0 = .ok (.iload_n 1, 1) := by decide +kernel
theorem dX6_set_1 : decode cX6_set 1 = .ok (.invokestatic 92, 3) := by decide +kernel
theorem dX6_set_4 : decode cX6_set 4 = .ok (.iload_n 1, 1) := by decide +kernel
theorem dX6_set_5 : decode cX6_set 5 = .ok (.ifCond .ne 7, 3) := by decide +kernel
theorem dX6_set_8 : decode cX6_set 8 = .ok (.iconst 0, 1) := by decide +kernel
theorem dX6_set_9 : decode cX6_set 9 = .ok (.goto 4, 3) := by decide +kernel
theorem dX6_set_12 : decode cX6_set 12 = .ok (.iconst 1, 1) := by decide +kernel
theorem dX6_set_13 : decode cX6_set 13 = .ok (.istore_n 3, 1) := by decide +kernel
theorem dX6_set_14 : decode cX6_set 14 = .ok (.iload_n 1, 1) := by decide +kernel
theorem dX6_set_15 : decode cX6_set 15 = .ok (.ifCond .ne 8, 3) := by decide +kernel
theorem dX6_set_18 : decode cX6_set 18 = .ok (.bipush 19, 2) := by decide +kernel
theorem dX6_set_20 : decode cX6_set 20 = .ok (.goto 5, 3) := by decide +kernel
theorem dX6_set_23 : decode cX6_set 23 = .ok (.bipush 20, 2) := by decide +kernel
theorem dX6_set_25 : decode cX6_set 25 = .ok (.istore 4, 2) := by decide +kernel
theorem dX6_set_27 : decode cX6_set 27 = .ok (.iload_n 2, 1) := by decide +kernel
theorem dX6_set_28 : decode cX6_set 28 = .ok (.iload_n 3, 1) := by decide +kernel
theorem dX6_set_29 : decode cX6_set 29 = .ok (.if_icmp .lt 9, 3) := by decide +kernel
theorem dX6_set_32 : decode cX6_set 32 = .ok (.iload_n 2, 1) := by decide +kernel
theorem dX6_set_33 : decode cX6_set 33 = .ok (.iload 4, 2) := by decide +kernel
theorem dX6_set_35 : decode cX6_set 35 = .ok (.if_icmp .le 13, 3) := by decide +kernel
theorem dX6_set_38 : decode cX6_set 38 = .ok (.new 34, 3) := by decide +kernel
theorem dX6_set_41 : decode cX6_set 41 = .ok (.dup, 1) := by decide +kernel
theorem dX6_set_42 : decode cX6_set 42 = .ok (.ldc 95, 2) := by decide +kernel
theorem dX6_set_44 : decode cX6_set 44 = .ok (.invokespecial 38, 3) := by decide +kernel
theorem dX6_set_47 : decode cX6_set 47 = .ok (.athrow, 1) := by decide +kernel
theorem dX6_set_48 : decode cX6_set 48 = .ok (.aload_n 0, 1) := by decide +kernel
theorem dX6_set_49 : decode cX6_set 49 = .ok (.getfield 19, 3) := by decide +kernel
theorem dX6_set_52 : decode cX6_set 52 = .ok (.aload_n 0, 1) := by decide +kernel
theorem dX6_set_53 : decode cX6_set 53 = .ok (.getfield 10, 3) := by decide +kernel
theorem dX6_set_56 : decode cX6_set 56 = .ok (.invokevirtual 56, 3) := by decide +kernel
theorem dX6_set_59 : decode cX6_set 59 = .ok (.aload_n 0, 1) := by decide +kernel
theorem dX6_set_60 : decode cX6_set 60 = .ok (.getfield 10, 3) := by decide +kernel
theorem dX6_set_63 : decode cX6_set 63 = .ok (.getfield 97, 3) := by decide +kernel
theorem dX6_set_66 : decode cX6_set 66 = .ok (.iload_n 1, 1) := by decide +kernel
theorem dX6_set_67 : decode cX6_set 67 = .ok (.iaload, 1) := by decide +kernel
theorem dX6_set_68 : decode cX6_set 68 = .ok (.istore 5, 2) := by decide +kernel
theorem dX6_set_70 : decode cX6_set 70 = .ok (.aload_n 0, 1) := by decide +kernel
theorem dX6_set_71 : decode cX6_set 71 = .ok (.getfield 10, 3) := by decide +kernel
theorem dX6_set_74 : decode cX6_set 74 = .ok (.getfield 97, 3) := by decide +kernel
theorem dX6_set_77 : decode cX6_set 77 = .ok (.iload_n 1, 1) := by decide +kernel
theorem dX6_set_78 : decode cX6_set 78 = .ok (.iload_n 2, 1) := by decide +kernel
theorem dX6_set_79 : decode cX6_set 79 = .ok (.iastore, 1) := by decide +kernel
theorem dX6_set_80 : decode cX6_set 80 = .ok (.iload 5, 2) := by decide +kernel
theorem dX6_set_82 : decode cX6_set 82 = .ok (.ireturn, 1) := by decide +kernel
theorem dX6_mail_0 : decode cX6_mail 0 = .ok (.iload_n 1, 1) := by decide +kernel
theorem dX6_mail_1 : decode cX6_mail 1 = .ok (.invokestatic 101, 3) := by decide +kernel
theorem dX6_mail_4 : decode cX6_mail 4 = .ok (.aload_n 0, 1) := by decide +kernel
theorem dX6_mail_5 : decode cX6_mail 5 = .ok (.iload_n 2, 1) := by decide +kernel
theorem dX6_mail_6 : decode cX6_mail 6 = .ok (.invokevirtual 64, 3) := by decide +kernel
theorem dX6_mail_9 : decode cX6_mail 9 = .ok (.aload_n 0, 1) := by decide +kernel
theorem dX6_mail_10 : decode cX6_mail 10 = .ok (.getfield 10, 3) := by decide +kernel
theorem dX6_mail_13 : decode cX6_mail 13 = .ok (.getfield 74, 3) := by decide +kernel
theorem dX6_mail_16 : decode cX6_mail 16 = .ok (.iload_n 1, 1) := by decide +kernel
theorem dX6_mail_17 : decode cX6_mail 17 = .ok (.iload_n 2, 1) := by decide +kernel
theorem dX6_mail_18 : decode cX6_mail 18 = .ok (.invokevirtual 104, 3) := by decide +kernel
theorem dX6_mail_21 : decode cX6_mail 21 = .ok (.ifCond .eq 13, 3) := by decide +kernel
theorem dX6_mail_24 : decode cX6_mail 24 = .ok (.new 51, 3) := by decide +kernel
theorem dX6_mail_27 : decode cX6_mail 27 = .ok (.dup, 1) := by decide +kernel
theorem dX6_mail_28 : decode cX6_mail 28 = .ok (.ldc 108, 2) := by decide +kernel
theorem dX6_mail_30 : decode cX6_mail 30 = .ok (.invokespecial 55, 3) := by decide +kernel
theorem dX6_mail_33 : decode cX6_mail 33 = .ok (.athrow, 1) := by decide +kernel
theorem dX6_mail_34 : decode cX6_mail 34 = .ok (.aload_n 0, 1) := by decide +kernel
theorem dX6_mail_35 : decode cX6_mail 35 = .ok (.getfield 19, 3) := by decide +kernel
theorem dX6_mail_38 : decode cX6_mail 38 = .ok (.aload_n 0, 1) := by decide +kernel
theorem dX6_mail_39 : decode cX6_mail 39 = .ok (.getfield 10, 3) := by decide +kernel
theorem dX6_mail_42 : decode cX6_mail 42 = .ok (.invokevirtual 56, 3) := by decide +kernel
theorem dX6_mail_45 : decode cX6_mail 45 = .ok (.aload_n 0, 1) := by decide +kernel
theorem dX6_mail_46 : decode cX6_mail 46 = .ok (.getfield 10, 3) := by decide +kernel
theorem dX6_mail_49 : decode cX6_mail 49 = .ok (.iload_n 1, 1) := by decide +kernel
theorem dX6_mail_50 : decode cX6_mail 50 = .ok (.iload_n 2, 1) := by decide +kernel
theorem dX6_mail_51 : decode cX6_mail 51 = .ok (.invokevirtual 110, 3) := by decide +kernel
theorem dX6_mail_54 : decode cX6_mail 54 = .ok (.ireturn, 1) := by decide +kernel
theorem dX6_mailAll_0 : decode cX6_mailAll 0 = .ok (.aload_n 0, 1) := by decide +kernel
theorem dX6_mailAll_1 : decode cX6_mailAll 1 = .ok (.iload_n 1, 1) := by decide +kernel
theorem dX6_mailAll_2 : decode cX6_mailAll 2 = .ok (.invokevirtual 64, 3) := by decide +kernel
theorem dX6_mailAll_5 : decode cX6_mailAll 5 = .ok (.iload_n 2, 1) := by decide +kernel
theorem dX6_mailAll_6 : decode cX6_mailAll 6 = .ok (.ifCond .lt 9, 3) := by decide +kernel
theorem dX6_mailAll_9 : decode cX6_mailAll 9 = .ok (.iload_n 2, 1) := by decide +kernel
theorem dX6_mailAll_10 : decode cX6_mailAll 10 = .ok (.bipush 63, 2) := by decide +kernel
theorem dX6_mailAll_12 : decode cX6_mailAll 12 = .ok (.if_icmp .le 13, 3) := by decide +kernel
theorem dX6_mailAll_15 : decode cX6_mailAll 15 = .ok (.new 34, 3) := by decide +kernel
theorem dX6_mailAll_18 : decode cX6_mailAll 18 = .ok (.dup, 1) := by decide +kernel
theorem dX6_mailAll_19 : decode cX6_mailAll 19 = .ok (.ldc 114, 2) := by decide +kernel
theorem dX6_mailAll_21 : decode cX6_mailAll 21 = .ok (.invokespecial 38, 3) := by decide +kernel
theorem dX6_mailAll_24 : decode cX6_mailAll 24 = .ok (.athrow, 1) := by decide +kernel
theorem dX6_mailAll_25 : decode cX6_mailAll 25 = .ok (.aload_n 0, 1) := by decide +kernel
theorem dX6_mailAll_26 : decode cX6_mailAll 26 = .ok (.getfield 19, 3) := by decide +kernel
theorem dX6_mailAll_29 : decode cX6_mailAll 29 = .ok (.aload_n 0, 1) := by decide +kernel
theorem dX6_mailAll_30 : decode cX6_mailAll 30 = .ok (.getfield 10, 3) := by decide +kernel
theorem dX6_mailAll_33 : decode cX6_mailAll 33 = .ok (.invokevirtual 56, 3) := by decide +kernel
theorem dX6_mailAll_36 : decode cX6_mailAll 36 = .ok (.aload_n 0, 1) := by decide +kernel
theorem dX6_mailAll_37 : decode cX6_mailAll 37 = .ok (.getfield 10, 3) := by decide +kernel
theorem dX6_mailAll_40 : decode cX6_mailAll 40 = .ok (.iload_n 1, 1) := by decide +kernel
theorem dX6_mailAll_41 : decode cX6_mailAll 41 = .ok (.iload_n 2, 1) := by decide +kernel
theorem dX6_mailAll_42 : decode cX6_mailAll 42 = .ok (.invokevirtual 116, 3) := by decide +kernel
theorem dX6_mailAll_45 : decode cX6_mailAll 45 = .ok (.ireturn, 1) := by decide +kernel
theorem dX6_forget_0 : decode cX6_forget 0 = .ok (.iload_n 1, 1) := by decide +kernel
theorem dX6_forget_1 : decode cX6_forget 1 = .ok (.invokestatic 101, 3) := by decide +kernel
theorem dX6_forget_4 : decode cX6_forget 4 = .ok (.aload_n 0, 1) := by decide +kernel
theorem dX6_forget_5 : decode cX6_forget 5 = .ok (.getfield 19, 3) := by decide +kernel
theorem dX6_forget_8 : decode cX6_forget 8 = .ok (.aload_n 0, 1) := by decide +kernel
theorem dX6_forget_9 : decode cX6_forget 9 = .ok (.getfield 10, 3) := by decide +kernel
theorem dX6_forget_12 : decode cX6_forget 12 = .ok (.invokevirtual 56, 3) := by decide +kernel
theorem dX6_forget_15 : decode cX6_forget 15 = .ok (.aload_n 0, 1) := by decide +kernel
theorem dX6_forget_16 : decode cX6_forget 16 = .ok (.getfield 10, 3) := by decide +kernel
theorem dX6_forget_19 : decode cX6_forget 19 = .ok (.getfield 74, 3) := by decide +kernel
theorem dX6_forget_22 : decode cX6_forget 22 = .ok (.iload_n 1, 1) := by decide +kernel
theorem dX6_forget_23 : decode cX6_forget 23 = .ok (.invokevirtual 119, 3) := by decide +kernel
theorem dX6_forget_26 : decode cX6_forget 26 = .ok (.ireturn, 1) := by decide +kernel
theorem dX6_catchUp_0 : decode cX6_catchUp 0 = .ok (.iload_n 1, 1) := by decide +kernel
theorem dX6_catchUp_1 : decode cX6_catchUp 1 = .ok (.invokestatic 101, 3) := by decide +kernel
theorem dX6_catchUp_4 : decode cX6_catchUp 4 = .ok (.aload_n 0, 1) := by decide +kernel
theorem dX6_catchUp_5 : decode cX6_catchUp 5 = .ok (.getfield 19, 3) := by decide +kernel
theorem dX6_catchUp_8 : decode cX6_catchUp 8 = .ok (.aload_n 0, 1) := by decide +kernel
theorem dX6_catchUp_9 : decode cX6_catchUp 9 = .ok (.getfield 10, 3) := by decide +kernel
theorem dX6_catchUp_12 : decode cX6_catchUp 12 = .ok (.invokevirtual 56, 3) := by decide +kernel
theorem dX6_catchUp_15 : decode cX6_catchUp 15 = .ok (.aload_n 0, 1) := by decide +kernel
theorem dX6_catchUp_16 : decode cX6_catchUp 16 = .ok (.getfield 10, 3) := by decide +kernel
theorem dX6_catchUp_19 : decode cX6_catchUp 19 = .ok (.iload_n 1, 1) := by decide +kernel
theorem dX6_catchUp_20 : decode cX6_catchUp 20 = .ok (.invokevirtual 122, 3) := by decide +kernel
theorem dX6_catchUp_23 : decode cX6_catchUp 23 = .ok (.ireturn, 1) := by decide +kernel
theorem dX6_append_0 : decode cX6_append 0 = .ok (.iload_n 1, 1) := by decide +kernel
theorem dX6_append_1 : decode cX6_append 1 = .ok (.bipush 33, 2) := by decide +kernel
theorem dX6_append_3 : decode cX6_append 3 = .ok (.if_icmp .lt 9, 3) := by decide +kernel
theorem dX6_append_6 : decode cX6_append 6 = .ok (.iload_n 1, 1) := by decide +kernel
theorem dX6_append_7 : decode cX6_append 7 = .ok (.bipush 126, 2) := by decide +kernel
theorem dX6_append_9 : decode cX6_append 9 = .ok (.if_icmp .le 13, 3) := by decide +kernel
theorem dX6_append_12 : decode cX6_append 12 = .ok (.new 34, 3) := by decide +kernel
theorem dX6_append_15 : decode cX6_append 15 = .ok (.dup, 1) := by decide +kernel
theorem dX6_append_16 : decode cX6_append 16 = .ok (.ldc 125, 2) := by decide +kernel
theorem dX6_append_18 : decode cX6_append 18 = .ok (.invokespecial 38, 3) := by decide +kernel
theorem dX6_append_21 : decode cX6_append 21 = .ok (.athrow, 1) := by decide +kernel
theorem dX6_append_22 : decode cX6_append 22 = .ok (.aload_n 0, 1) := by decide +kernel
theorem dX6_append_23 : decode cX6_append 23 = .ok (.getfield 26, 3) := by decide +kernel
theorem dX6_append_26 : decode cX6_append 26 = .ok (.getfield 127, 3) := by decide +kernel
theorem dX6_append_29 : decode cX6_append 29 = .ok (.bipush 60, 2) := by decide +kernel
theorem dX6_append_31 : decode cX6_append 31 = .ok (.if_icmp .lt 13, 3) := by decide +kernel
theorem dX6_append_34 : decode cX6_append 34 = .ok (.new 51, 3) := by decide +kernel
theorem dX6_append_37 : decode cX6_append 37 = .ok (.dup, 1) := by decide +kernel
theorem dX6_append_38 : decode cX6_append 38 = .ok (.ldc 130, 2) := by decide +kernel
theorem dX6_append_40 : decode cX6_append 40 = .ok (.invokespecial 55, 3) := by decide +kernel
theorem dX6_append_43 : decode cX6_append 43 = .ok (.athrow, 1) := by decide +kernel
theorem dX6_append_44 : decode cX6_append 44 = .ok (.aload_n 0, 1) := by decide +kernel
theorem dX6_append_45 : decode cX6_append 45 = .ok (.getfield 26, 3) := by decide +kernel
theorem dX6_append_48 : decode cX6_append 48 = .ok (.iload_n 1, 1) := by decide +kernel
theorem dX6_append_49 : decode cX6_append 49 = .ok (.invokevirtual 132, 3) := by decide +kernel
theorem dX6_append_52 : decode cX6_append 52 = .ok (.aload_n 0, 1) := by decide +kernel
theorem dX6_append_53 : decode cX6_append 53 = .ok (.getfield 26, 3) := by decide +kernel
theorem dX6_append_56 : decode cX6_append 56 = .ok (.getfield 127, 3) := by decide +kernel
theorem dX6_append_59 : decode cX6_append 59 = .ok (.ireturn, 1) := by decide +kernel
theorem dX6_clearBuffer_0 : decode cX6_clearBuffer 0 = .ok (.aload_n 0, 1) := by decide +kernel
theorem dX6_clearBuffer_1 : decode cX6_clearBuffer 1 = .ok (.getfield 26, 3) := by decide +kernel
theorem dX6_clearBuffer_4 : decode cX6_clearBuffer 4 = .ok (.getfield 127, 3) := by decide +kernel
theorem dX6_clearBuffer_7 : decode cX6_clearBuffer 7 = .ok (.istore_n 1, 1) := by decide +kernel
theorem dX6_clearBuffer_8 : decode cX6_clearBuffer 8 = .ok (.aload_n 0, 1) := by decide +kernel
theorem dX6_clearBuffer_9 : decode cX6_clearBuffer 9 = .ok (.getfield 26, 3) := by decide +kernel
theorem dX6_clearBuffer_12 : decode cX6_clearBuffer 12 = .ok (.iconst 0, 1) := by decide +kernel
theorem dX6_clearBuffer_13 : decode cX6_clearBuffer 13 = .ok (.putfield 127, 3) := by decide +kernel
theorem dX6_clearBuffer_16 : decode cX6_clearBuffer 16 = .ok (.iload_n 1, 1) := by decide +kernel
theorem dX6_clearBuffer_17 : decode cX6_clearBuffer 17 = .ok (.ireturn, 1) := by decide +kernel
theorem dX6_firstError_0 : decode cX6_firstError 0 = .ok (.aload_n 0, 1) := by decide +kernel
theorem dX6_firstError_1 : decode cX6_firstError 1 = .ok (.getfield 26, 3) := by decide +kernel
theorem dX6_firstError_4 : decode cX6_firstError 4 = .ok (.invokevirtual 134, 3) := by decide +kernel
theorem dX6_firstError_7 : decode cX6_firstError 7 = .ok (.ireturn, 1) := by decide +kernel
theorem dX6_addAll_0 : decode cX6_addAll 0 = .ok (.aload_n 0, 1) := by decide +kernel
theorem dX6_addAll_1 : decode cX6_addAll 1 = .ok (.getfield 26, 3) := by decide +kernel
theorem dX6_addAll_4 : decode cX6_addAll 4 = .ok (.invokevirtual 138, 3) := by decide +kernel
theorem dX6_addAll_7 : decode cX6_addAll 7 = .ok (.ifCond .ne 13, 3) := by decide +kernel
theorem dX6_addAll_10 : decode cX6_addAll 10 = .ok (.new 34, 3) := by decide +kernel
theorem dX6_addAll_13 : decode cX6_addAll 13 = .ok (.dup, 1) := by decide +kernel
theorem dX6_addAll_14 : decode cX6_addAll 14 = .ok (.ldc 142, 2) := by decide +kernel
theorem dX6_addAll_16 : decode cX6_addAll 16 = .ok (.invokespecial 38, 3) := by decide +kernel
theorem dX6_addAll_19 : decode cX6_addAll 19 = .ok (.athrow, 1) := by decide +kernel
theorem dX6_addAll_20 : decode cX6_addAll 20 = .ok (.aload_n 0, 1) := by decide +kernel
theorem dX6_addAll_21 : decode cX6_addAll 21 = .ok (.getfield 10, 3) := by decide +kernel
theorem dX6_addAll_24 : decode cX6_addAll 24 = .ok (.getfield 41, 3) := by decide +kernel
theorem dX6_addAll_27 : decode cX6_addAll 27 = .ok (.getfield 45, 3) := by decide +kernel
theorem dX6_addAll_30 : decode cX6_addAll 30 = .ok (.aload_n 0, 1) := by decide +kernel
theorem dX6_addAll_31 : decode cX6_addAll 31 = .ok (.getfield 26, 3) := by decide +kernel
theorem dX6_addAll_34 : decode cX6_addAll 34 = .ok (.invokevirtual 144, 3) := by decide +kernel
theorem dX6_addAll_37 : decode cX6_addAll 37 = .ok (.iadd, 1) := by decide +kernel
theorem dX6_addAll_38 : decode cX6_addAll 38 = .ok (.bipush 20, 2) := by decide +kernel
theorem dX6_addAll_40 : decode cX6_addAll 40 = .ok (.if_icmp .le 13, 3) := by decide +kernel
theorem dX6_addAll_43 : decode cX6_addAll 43 = .ok (.new 51, 3) := by decide +kernel
theorem dX6_addAll_46 : decode cX6_addAll 46 = .ok (.dup, 1) := by decide +kernel
theorem dX6_addAll_47 : decode cX6_addAll 47 = .ok (.ldc 147, 2) := by decide +kernel
theorem dX6_addAll_49 : decode cX6_addAll 49 = .ok (.invokespecial 55, 3) := by decide +kernel
theorem dX6_addAll_52 : decode cX6_addAll 52 = .ok (.athrow, 1) := by decide +kernel
theorem dX6_addAll_53 : decode cX6_addAll 53 = .ok (.aload_n 0, 1) := by decide +kernel
theorem dX6_addAll_54 : decode cX6_addAll 54 = .ok (.getfield 19, 3) := by decide +kernel
theorem dX6_addAll_57 : decode cX6_addAll 57 = .ok (.aload_n 0, 1) := by decide +kernel
theorem dX6_addAll_58 : decode cX6_addAll 58 = .ok (.getfield 10, 3) := by decide +kernel
theorem dX6_addAll_61 : decode cX6_addAll 61 = .ok (.invokevirtual 56, 3) := by decide +kernel
theorem dX6_addAll_64 : decode cX6_addAll 64 = .ok (.aload_n 0, 1) := by decide +kernel
theorem dX6_addAll_65 : decode cX6_addAll 65 = .ok (.getfield 26, 3) := by decide +kernel
theorem dX6_addAll_68 : decode cX6_addAll 68 = .ok (.aload_n 0, 1) := by decide +kernel
theorem dX6_addAll_69 : decode cX6_addAll 69 = .ok (.getfield 10, 3) := by decide +kernel
theorem dX6_addAll_72 : decode cX6_addAll 72 = .ok (.getfield 41, 3) := by decide +kernel
theorem dX6_addAll_75 : decode cX6_addAll 75 = .ok (.invokevirtual 149, 3) := by decide +kernel
theorem dX6_addAll_78 : decode cX6_addAll 78 = .ok (.aload_n 0, 1) := by decide +kernel
theorem dX6_addAll_79 : decode cX6_addAll 79 = .ok (.getfield 26, 3) := by decide +kernel
theorem dX6_addAll_82 : decode cX6_addAll 82 = .ok (.iconst 0, 1) := by decide +kernel
theorem dX6_addAll_83 : decode cX6_addAll 83 = .ok (.putfield 127, 3) := by decide +kernel
theorem dX6_addAll_86 : decode cX6_addAll 86 = .ok (.aload_n 0, 1) := by decide +kernel
theorem dX6_addAll_87 : decode cX6_addAll 87 = .ok (.getfield 10, 3) := by decide +kernel
theorem dX6_addAll_90 : decode cX6_addAll 90 = .ok (.getfield 41, 3) := by decide +kernel
theorem dX6_addAll_93 : decode cX6_addAll 93 = .ok (.getfield 45, 3) := by decide +kernel
theorem dX6_addAll_96 : decode cX6_addAll 96 = .ok (.ireturn, 1) := by decide +kernel
theorem dX6_undo_0 : decode cX6_undo 0 = .ok (.aload_n 0, 1) := by decide +kernel
theorem dX6_undo_1 : decode cX6_undo 1 = .ok (.getfield 19, 3) := by decide +kernel
theorem dX6_undo_4 : decode cX6_undo 4 = .ok (.invokevirtual 153, 3) := by decide +kernel
theorem dX6_undo_7 : decode cX6_undo 7 = .ok (.astore_n 1, 1) := by decide +kernel
theorem dX6_undo_8 : decode cX6_undo 8 = .ok (.aload_n 1, 1) := by decide +kernel
theorem dX6_undo_9 : decode cX6_undo 9 = .ok (.ifnonnull 13, 3) := by decide +kernel
theorem dX6_undo_12 : decode cX6_undo 12 = .ok (.new 51, 3) := by decide +kernel
theorem dX6_undo_15 : decode cX6_undo 15 = .ok (.dup, 1) := by decide +kernel
theorem dX6_undo_16 : decode cX6_undo 16 = .ok (.ldc 157, 2) := by decide +kernel
theorem dX6_undo_18 : decode cX6_undo 18 = .ok (.invokespecial 55, 3) := by decide +kernel
theorem dX6_undo_21 : decode cX6_undo 21 = .ok (.athrow, 1) := by decide +kernel
theorem dX6_undo_22 : decode cX6_undo 22 = .ok (.aload_n 0, 1) := by decide +kernel
theorem dX6_undo_23 : decode cX6_undo 23 = .ok (.getfield 10, 3) := by decide +kernel
theorem dX6_undo_26 : decode cX6_undo 26 = .ok (.aload_n 1, 1) := by decide +kernel
theorem dX6_undo_27 : decode cX6_undo 27 = .ok (.invokevirtual 159, 3) := by decide +kernel
theorem dX6_undo_30 : decode cX6_undo 30 = .ok (.aload_n 0, 1) := by decide +kernel
theorem dX6_undo_31 : decode cX6_undo 31 = .ok (.getfield 19, 3) := by decide +kernel
theorem dX6_undo_34 : decode cX6_undo 34 = .ok (.invokevirtual 162, 3) := by decide +kernel
theorem dX6_undo_37 : decode cX6_undo 37 = .ok (.aload_n 0, 1) := by decide +kernel
theorem dX6_undo_38 : decode cX6_undo 38 = .ok (.getfield 19, 3) := by decide +kernel
theorem dX6_undo_41 : decode cX6_undo 41 = .ok (.getfield 165, 3) := by decide +kernel
theorem dX6_undo_44 : decode cX6_undo 44 = .ok (.ireturn, 1) := by decide +kernel
theorem dX6_part_0 : decode cX6_part 0 = .ok (.aload_n 0, 1) := by decide +kernel
theorem dX6_part_1 : decode cX6_part 1 = .ok (.iload_n 1, 1) := by decide +kernel
theorem dX6_part_2 : decode cX6_part 2 = .ok (.invokevirtual 64, 3) := by decide +kernel
theorem dX6_part_5 : decode cX6_part 5 = .ok (.iload_n 2, 1) := by decide +kernel
theorem dX6_part_6 : decode cX6_part 6 = .ok (.bipush 6, 2) := by decide +kernel
theorem dX6_part_8 : decode cX6_part 8 = .ok (.invokestatic 168, 3) := by decide +kernel
theorem dX6_part_11 : decode cX6_part 11 = .ok (.aload_n 0, 1) := by decide +kernel
theorem dX6_part_12 : decode cX6_part 12 = .ok (.getfield 10, 3) := by decide +kernel
theorem dX6_part_15 : decode cX6_part 15 = .ok (.iload_n 1, 1) := by decide +kernel
theorem dX6_part_16 : decode cX6_part 16 = .ok (.iload_n 2, 1) := by decide +kernel
theorem dX6_part_17 : decode cX6_part 17 = .ok (.invokevirtual 171, 3) := by decide +kernel
theorem dX6_part_20 : decode cX6_part 20 = .ok (.ireturn, 1) := by decide +kernel
theorem dX6_knows_0 : decode cX6_knows 0 = .ok (.iload_n 1, 1) := by decide +kernel
theorem dX6_knows_1 : decode cX6_knows 1 = .ok (.invokestatic 101, 3) := by decide +kernel
theorem dX6_knows_4 : decode cX6_knows 4 = .ok (.aload_n 0, 1) := by decide +kernel
theorem dX6_knows_5 : decode cX6_knows 5 = .ok (.iload_n 2, 1) := by decide +kernel
theorem dX6_knows_6 : decode cX6_knows 6 = .ok (.invokevirtual 64, 3) := by decide +kernel
theorem dX6_knows_9 : decode cX6_knows 9 = .ok (.aload_n 0, 1) := by decide +kernel
theorem dX6_knows_10 : decode cX6_knows 10 = .ok (.getfield 10, 3) := by decide +kernel
theorem dX6_knows_13 : decode cX6_knows 13 = .ok (.getfield 74, 3) := by decide +kernel
theorem dX6_knows_16 : decode cX6_knows 16 = .ok (.iload_n 1, 1) := by decide +kernel
theorem dX6_knows_17 : decode cX6_knows 17 = .ok (.iload_n 2, 1) := by decide +kernel
theorem dX6_knows_18 : decode cX6_knows 18 = .ok (.invokevirtual 174, 3) := by decide +kernel
theorem dX6_knows_21 : decode cX6_knows 21 = .ok (.ireturn, 1) := by decide +kernel
theorem dX6_reader_0 : decode cX6_reader 0 = .ok (.iload_n 1, 1) := by decide +kernel
theorem dX6_reader_1 : decode cX6_reader 1 = .ok (.invokestatic 101, 3) := by decide +kernel
theorem dX6_reader_4 : decode cX6_reader 4 = .ok (.iload_n 2, 1) := by decide +kernel
theorem dX6_reader_5 : decode cX6_reader 5 = .ok (.bipush 6, 2) := by decide +kernel
theorem dX6_reader_7 : decode cX6_reader 7 = .ok (.invokestatic 168, 3) := by decide +kernel
theorem dX6_reader_10 : decode cX6_reader 10 = .ok (.aload_n 0, 1) := by decide +kernel
theorem dX6_reader_11 : decode cX6_reader 11 = .ok (.getfield 10, 3) := by decide +kernel
theorem dX6_reader_14 : decode cX6_reader 14 = .ok (.iload_n 1, 1) := by decide +kernel
theorem dX6_reader_15 : decode cX6_reader 15 = .ok (.iload_n 2, 1) := by decide +kernel
theorem dX6_reader_16 : decode cX6_reader 16 = .ok (.invokevirtual 177, 3) := by decide +kernel
theorem dX6_reader_19 : decode cX6_reader 19 = .ok (.ireturn, 1) := by decide +kernel
theorem dX6_plot_0 : decode cX6_plot 0 = .ok (.iload_n 1, 1) := by decide +kernel
theorem dX6_plot_1 : decode cX6_plot 1 = .ok (.ifCond .lt 9, 3) := by decide +kernel
theorem dX6_plot_4 : decode cX6_plot 4 = .ok (.iload_n 1, 1) := by decide +kernel
theorem dX6_plot_5 : decode cX6_plot 5 = .ok (.bipush 6, 2) := by decide +kernel
theorem dX6_plot_7 : decode cX6_plot 7 = .ok (.if_icmp .lt 13, 3) := by decide +kernel
theorem dX6_plot_10 : decode cX6_plot 10 = .ok (.new 180, 3) := by decide +kernel
theorem dX6_plot_13 : decode cX6_plot 13 = .ok (.dup, 1) := by decide +kernel
theorem dX6_plot_14 : decode cX6_plot 14 = .ok (.ldc 182, 2) := by decide +kernel
theorem dX6_plot_16 : decode cX6_plot 16 = .ok (.invokespecial 184, 3) := by decide +kernel
theorem dX6_plot_19 : decode cX6_plot 19 = .ok (.athrow, 1) := by decide +kernel
theorem dX6_plot_20 : decode cX6_plot 20 = .ok (.iload_n 2, 1) := by decide +kernel
theorem dX6_plot_21 : decode cX6_plot 21 = .ok (.iconst 3, 1) := by decide +kernel
theorem dX6_plot_22 : decode cX6_plot 22 = .ok (.invokestatic 168, 3) := by decide +kernel
theorem dX6_plot_25 : decode cX6_plot 25 = .ok (.aload_n 0, 1) := by decide +kernel
theorem dX6_plot_26 : decode cX6_plot 26 = .ok (.getfield 10, 3) := by decide +kernel
theorem dX6_plot_29 : decode cX6_plot 29 = .ok (.iload_n 1, 1) := by decide +kernel
theorem dX6_plot_30 : decode cX6_plot 30 = .ok (.iload_n 2, 1) := by decide +kernel
theorem dX6_plot_31 : decode cX6_plot 31 = .ok (.invokevirtual 185, 3) := by decide +kernel
theorem dX6_plot_34 : decode cX6_plot 34 = .ok (.ireturn, 1) := by decide +kernel
theorem dX6_count_0 : decode cX6_count 0 = .ok (.iload_n 1, 1) := by decide +kernel
theorem dX6_count_1 : decode cX6_count 1 = .ok (.bipush 6, 2) := by decide +kernel
theorem dX6_count_3 : decode cX6_count 3 = .ok (.invokestatic 168, 3) := by decide +kernel
theorem dX6_count_6 : decode cX6_count 6 = .ok (.aload_n 0, 1) := by decide +kernel
theorem dX6_count_7 : decode cX6_count 7 = .ok (.iload_n 1, 1) := by decide +kernel
theorem dX6_count_8 : decode cX6_count 8 = .ok (.invokevirtual 188, 3) := by decide +kernel
theorem dX6_count_11 : decode cX6_count 11 = .ok (.ireturn, 1) := by decide +kernel
theorem dX6_setting_0 : decode cX6_setting 0 = .ok (.iload_n 1, 1) := by decide +kernel
theorem dX6_setting_1 : decode cX6_setting 1 = .ok (.invokestatic 92, 3) := by decide +kernel
theorem dX6_setting_4 : decode cX6_setting 4 = .ok (.aload_n 0, 1) := by decide +kernel
theorem dX6_setting_5 : decode cX6_setting 5 = .ok (.getfield 10, 3) := by decide +kernel
theorem dX6_setting_8 : decode cX6_setting 8 = .ok (.getfield 97, 3) := by decide +kernel
theorem dX6_setting_11 : decode cX6_setting 11 = .ok (.iload_n 1, 1) := by decide +kernel
theorem dX6_setting_12 : decode cX6_setting 12 = .ok (.iaload, 1) := by decide +kernel
theorem dX6_setting_13 : decode cX6_setting 13 = .ok (.ireturn, 1) := by decide +kernel
theorem dX6_recap_0 : decode cX6_recap 0 = .ok (.iload_n 1, 1) := by decide +kernel
theorem dX6_recap_1 : decode cX6_recap 1 = .ok (.invokestatic 101, 3) := by decide +kernel
theorem dX6_recap_4 : decode cX6_recap 4 = .ok (.aload_n 0, 1) := by decide +kernel
theorem dX6_recap_5 : decode cX6_recap 5 = .ok (.iload_n 2, 1) := by decide +kernel
theorem dX6_recap_6 : decode cX6_recap 6 = .ok (.invokevirtual 64, 3) := by decide +kernel
theorem dX6_recap_9 : decode cX6_recap 9 = .ok (.iload_n 3, 1) := by decide +kernel
theorem dX6_recap_10 : decode cX6_recap 10 = .ok (.iconst 4, 1) := by decide +kernel
theorem dX6_recap_11 : decode cX6_recap 11 = .ok (.invokestatic 168, 3) := by decide +kernel
theorem dX6_recap_14 : decode cX6_recap 14 = .ok (.aload_n 0, 1) := by decide +kernel
theorem dX6_recap_15 : decode cX6_recap 15 = .ok (.getfield 10, 3) := by decide +kernel
theorem dX6_recap_18 : decode cX6_recap 18 = .ok (.iload_n 1, 1) := by decide +kernel
theorem dX6_recap_19 : decode cX6_recap 19 = .ok (.iload_n 2, 1) := by decide +kernel
theorem dX6_recap_20 : decode cX6_recap 20 = .ok (.iload_n 3, 1) := by decide +kernel
theorem dX6_recap_21 : decode cX6_recap 21 = .ok (.invokevirtual 191, 3) := by decide +kernel
theorem dX6_recap_24 : decode cX6_recap 24 = .ok (.ireturn, 1) := by decide +kernel
theorem dX6_easiest_0 : decode cX6_easiest 0 = .ok (.iload_n 1, 1) := by decide +kernel
theorem dX6_easiest_1 : decode cX6_easiest 1 = .ok (.invokestatic 101, 3) := by decide +kernel
theorem dX6_easiest_4 : decode cX6_easiest 4 = .ok (.aload_n 0, 1) := by decide +kernel
theorem dX6_easiest_5 : decode cX6_easiest 5 = .ok (.getfield 10, 3) := by decide +kernel
theorem dX6_easiest_8 : decode cX6_easiest 8 = .ok (.iload_n 1, 1) := by decide +kernel
theorem dX6_easiest_9 : decode cX6_easiest 9 = .ok (.invokevirtual 194, 3) := by decide +kernel
theorem dX6_easiest_12 : decode cX6_easiest 12 = .ok (.ireturn, 1) := by decide +kernel
theorem dX6_enough_0 : decode cX6_enough 0 = .ok (.iload_n 1, 1) := by decide +kernel
theorem dX6_enough_1 : decode cX6_enough 1 = .ok (.invokestatic 101, 3) := by decide +kernel
theorem dX6_enough_4 : decode cX6_enough 4 = .ok (.aload_n 0, 1) := by decide +kernel
theorem dX6_enough_5 : decode cX6_enough 5 = .ok (.getfield 10, 3) := by decide +kernel
theorem dX6_enough_8 : decode cX6_enough 8 = .ok (.iload_n 1, 1) := by decide +kernel
theorem dX6_enough_9 : decode cX6_enough 9 = .ok (.invokevirtual 197, 3) := by decide +kernel
theorem dX6_enough_12 : decode cX6_enough 12 = .ok (.ireturn, 1) := by decide +kernel
theorem dX6_readShare_0 : decode cX6_readShare 0 = .ok (.aload_n 0, 1) := by decide +kernel
theorem dX6_readShare_1 : decode cX6_readShare 1 = .ok (.getfield 10, 3) := by decide +kernel
theorem dX6_readShare_4 : decode cX6_readShare 4 = .ok (.invokevirtual 200, 3) := by decide +kernel
theorem dX6_readShare_7 : decode cX6_readShare 7 = .ok (.dreturn, 1) := by decide +kernel
theorem dX6_digest_0 : decode cX6_digest 0 = .ok (.ldc2_w 204, 3) := by decide +kernel
theorem dX6_digest_3 : decode cX6_digest 3 = .ok (.lstore_n 1, 1) := by decide +kernel
theorem dX6_digest_4 : decode cX6_digest 4 = .ok (.iconst 0, 1) := by decide +kernel
theorem dX6_digest_5 : decode cX6_digest 5 = .ok (.istore_n 3, 1) := by decide +kernel
theorem dX6_digest_6 : decode cX6_digest 6 = .ok (.iload_n 3, 1) := by decide +kernel
theorem dX6_digest_7 : decode cX6_digest 7 = .ok (.bipush 6, 2) := by decide +kernel
theorem dX6_digest_9 : decode cX6_digest 9 = .ok (.if_icmp .gt 20, 3) := by decide +kernel
theorem dX6_digest_12 : decode cX6_digest 12 = .ok (.lload_n 1, 1) := by decide +kernel
theorem dX6_digest_13 : decode cX6_digest 13 = .ok (.aload_n 0, 1) := by decide +kernel
theorem dX6_digest_14 : decode cX6_digest 14 = .ok (.iload_n 3, 1) := by decide +kernel
theorem dX6_digest_15 : decode cX6_digest 15 = .ok (.invokevirtual 188, 3) := by decide +kernel
theorem dX6_digest_18 : decode cX6_digest 18 = .ok (.i2l, 1) := by decide +kernel
theorem dX6_digest_19 : decode cX6_digest 19 = .ok (.invokestatic 206, 3) := by decide +kernel
theorem dX6_digest_22 : decode cX6_digest 22 = .ok (.lstore_n 1, 1) := by decide +kernel
theorem dX6_digest_23 : decode cX6_digest 23 = .ok (.iinc 3 1, 3) := by decide +kernel
theorem dX6_digest_26 : decode cX6_digest 26 = .ok (.goto (-20), 3) := by decide +kernel
theorem dX6_digest_29 : decode cX6_digest 29 = .ok (.iconst 0, 1) := by decide +kernel
theorem dX6_digest_30 : decode cX6_digest 30 = .ok (.istore_n 3, 1) := by decide +kernel
theorem dX6_digest_31 : decode cX6_digest 31 = .ok (.iload_n 3, 1) := by decide +kernel
theorem dX6_digest_32 : decode cX6_digest 32 = .ok (.iconst 2, 1) := by decide +kernel
theorem dX6_digest_33 : decode cX6_digest 33 = .ok (.if_icmp .ge 24, 3) := by decide +kernel
theorem dX6_digest_36 : decode cX6_digest 36 = .ok (.lload_n 1, 1) := by decide +kernel
theorem dX6_digest_37 : decode cX6_digest 37 = .ok (.aload_n 0, 1) := by decide +kernel
theorem dX6_digest_38 : decode cX6_digest 38 = .ok (.getfield 10, 3) := by decide +kernel
theorem dX6_digest_41 : decode cX6_digest 41 = .ok (.getfield 97, 3) := by decide +kernel
theorem dX6_digest_44 : decode cX6_digest 44 = .ok (.iload_n 3, 1) := by decide +kernel
theorem dX6_digest_45 : decode cX6_digest 45 = .ok (.iaload, 1) := by decide +kernel
theorem dX6_digest_46 : decode cX6_digest 46 = .ok (.i2l, 1) := by decide +kernel
theorem dX6_digest_47 : decode cX6_digest 47 = .ok (.invokestatic 206, 3) := by decide +kernel
theorem dX6_digest_50 : decode cX6_digest 50 = .ok (.lstore_n 1, 1) := by decide +kernel
theorem dX6_digest_51 : decode cX6_digest 51 = .ok (.iinc 3 1, 3) := by decide +kernel
theorem dX6_digest_54 : decode cX6_digest 54 = .ok (.goto (-23), 3) := by decide +kernel
theorem dX6_digest_57 : decode cX6_digest 57 = .ok (.aload_n 0, 1) := by decide +kernel
theorem dX6_digest_58 : decode cX6_digest 58 = .ok (.lload_n 1, 1) := by decide +kernel
theorem dX6_digest_59 : decode cX6_digest 59 = .ok (.invokevirtual 210, 3) := by decide +kernel
theorem dX6_digest_62 : decode cX6_digest 62 = .ok (.lstore_n 1, 1) := by decide +kernel
theorem dX6_digest_63 : decode cX6_digest 63 = .ok (.iconst 0, 1) := by decide +kernel
theorem dX6_digest_64 : decode cX6_digest 64 = .ok (.istore_n 3, 1) := by decide +kernel
theorem dX6_digest_65 : decode cX6_digest 65 = .ok (.iload_n 3, 1) := by decide +kernel
theorem dX6_digest_66 : decode cX6_digest 66 = .ok (.bipush 6, 2) := by decide +kernel
theorem dX6_digest_68 : decode cX6_digest 68 = .ok (.if_icmp .ge 16, 3) := by decide +kernel
theorem dX6_digest_71 : decode cX6_digest 71 = .ok (.aload_n 0, 1) := by decide +kernel
theorem dX6_digest_72 : decode cX6_digest 72 = .ok (.lload_n 1, 1) := by decide +kernel
theorem dX6_digest_73 : decode cX6_digest 73 = .ok (.iload_n 3, 1) := by decide +kernel
theorem dX6_digest_74 : decode cX6_digest 74 = .ok (.invokevirtual 214, 3) := by decide +kernel
theorem dX6_digest_77 : decode cX6_digest 77 = .ok (.lstore_n 1, 1) := by decide +kernel
theorem dX6_digest_78 : decode cX6_digest 78 = .ok (.iinc 3 1, 3) := by decide +kernel
theorem dX6_digest_81 : decode cX6_digest 81 = .ok (.goto (-16), 3) := by decide +kernel
theorem dX6_digest_84 : decode cX6_digest 84 = .ok (.aload_n 0, 1) := by decide +kernel
theorem dX6_digest_85 : decode cX6_digest 85 = .ok (.lload_n 1, 1) := by decide +kernel
theorem dX6_digest_86 : decode cX6_digest 86 = .ok (.invokevirtual 218, 3) := by decide +kernel
theorem dX6_digest_89 : decode cX6_digest 89 = .ok (.lstore_n 1, 1) := by decide +kernel
theorem dX6_digest_90 : decode cX6_digest 90 = .ok (.lload_n 1, 1) := by decide +kernel
theorem dX6_digest_91 : decode cX6_digest 91 = .ok (.aload_n 0, 1) := by decide +kernel
theorem dX6_digest_92 : decode cX6_digest 92 = .ok (.getfield 10, 3) := by decide +kernel
theorem dX6_digest_95 : decode cX6_digest 95 = .ok (.invokevirtual 200, 3) := by decide +kernel
theorem dX6_digest_98 : decode cX6_digest 98 = .ok (.invokestatic 221, 3) := by decide +kernel
theorem dX6_digest_101 : decode cX6_digest 101 = .ok (.invokestatic 206, 3) := by decide +kernel
theorem dX6_digest_104 : decode cX6_digest 104 = .ok (.lstore_n 1, 1) := by decide +kernel
theorem dX6_digest_105 : decode cX6_digest 105 = .ok (.aload_n 0, 1) := by decide +kernel
theorem dX6_digest_106 : decode cX6_digest 106 = .ok (.lload_n 1, 1) := by decide +kernel
theorem dX6_digest_107 : decode cX6_digest 107 = .ok (.invokevirtual 225, 3) := by decide +kernel
theorem dX6_digest_110 : decode cX6_digest 110 = .ok (.lreturn, 1) := by decide +kernel
theorem dX6_mix_0 : decode cX6_mix 0 = .ok (.ldc2_w 228, 3) := by decide +kernel
theorem dX6_mix_3 : decode cX6_mix 3 = .ok (.lload_n 0, 1) := by decide +kernel
theorem dX6_mix_4 : decode cX6_mix 4 = .ok (.lmul, 1) := by decide +kernel
theorem dX6_mix_5 : decode cX6_mix 5 = .ok (.lload_n 2, 1) := by decide +kernel
theorem dX6_mix_6 : decode cX6_mix 6 = .ok (.ladd, 1) := by decide +kernel
theorem dX6_mix_7 : decode cX6_mix 7 = .ok (.lreturn, 1) := by decide +kernel
theorem dX6_mixParts_0 : decode cX6_mixParts 0 = .ok (.lload_n 1, 1) := by decide +kernel
theorem dX6_mixParts_1 : decode cX6_mixParts 1 = .ok (.lstore_n 3, 1) := by decide +kernel
theorem dX6_mixParts_2 : decode cX6_mixParts 2 = .ok (.iconst 0, 1) := by decide +kernel
theorem dX6_mixParts_3 : decode cX6_mixParts 3 = .ok (.istore 5, 2) := by decide +kernel
theorem dX6_mixParts_5 : decode cX6_mixParts 5 = .ok (.iload 5, 2) := by decide +kernel
theorem dX6_mixParts_7 : decode cX6_mixParts 7 = .ok (.aload_n 0, 1) := by decide +kernel
theorem dX6_mixParts_8 : decode cX6_mixParts 8 = .ok (.getfield 10, 3) := by decide +kernel
theorem dX6_mixParts_11 : decode cX6_mixParts 11 = .ok (.getfield 41, 3) := by decide +kernel
theorem dX6_mixParts_14 : decode cX6_mixParts 14 = .ok (.getfield 45, 3) := by decide +kernel
theorem dX6_mixParts_17 : decode cX6_mixParts 17 = .ok (.if_icmp .ge 42, 3) := by decide +kernel
theorem dX6_mixParts_20 : decode cX6_mixParts 20 = .ok (.iconst 0, 1) := by decide +kernel
theorem dX6_mixParts_21 : decode cX6_mixParts 21 = .ok (.istore 6, 2) := by decide +kernel
theorem dX6_mixParts_23 : decode cX6_mixParts 23 = .ok (.iload 6, 2) := by decide +kernel
theorem dX6_mixParts_25 : decode cX6_mixParts 25 = .ok (.bipush 6, 2) := by decide +kernel
theorem dX6_mixParts_27 : decode cX6_mixParts 27 = .ok (.if_icmp .gt 26, 3) := by decide +kernel
theorem dX6_mixParts_30 : decode cX6_mixParts 30 = .ok (.lload_n 3, 1) := by decide +kernel
theorem dX6_mixParts_31 : decode cX6_mixParts 31 = .ok (.aload_n 0, 1) := by decide +kernel
theorem dX6_mixParts_32 : decode cX6_mixParts 32 = .ok (.getfield 10, 3) := by decide +kernel
theorem dX6_mixParts_35 : decode cX6_mixParts 35 = .ok (.iload 5, 2) := by decide +kernel
theorem dX6_mixParts_37 : decode cX6_mixParts 37 = .ok (.iload 6, 2) := by decide +kernel
theorem dX6_mixParts_39 : decode cX6_mixParts 39 = .ok (.invokevirtual 171, 3) := by decide +kernel
theorem dX6_mixParts_42 : decode cX6_mixParts 42 = .ok (.i2l, 1) := by decide +kernel
theorem dX6_mixParts_43 : decode cX6_mixParts 43 = .ok (.invokestatic 206, 3) := by decide +kernel
theorem dX6_mixParts_46 : decode cX6_mixParts 46 = .ok (.lstore_n 3, 1) := by decide +kernel
theorem dX6_mixParts_47 : decode cX6_mixParts 47 = .ok (.iinc 6 1, 3) := by decide +kernel
theorem dX6_mixParts_50 : decode cX6_mixParts 50 = .ok (.goto (-27), 3) := by decide +kernel
theorem dX6_mixParts_53 : decode cX6_mixParts 53 = .ok (.iinc 5 1, 3) := by decide +kernel
theorem dX6_mixParts_56 : decode cX6_mixParts 56 = .ok (.goto (-51), 3) := by decide +kernel
theorem dX6_mixParts_59 : decode cX6_mixParts 59 = .ok (.lload_n 3, 1) := by decide +kernel
theorem dX6_mixParts_60 : decode cX6_mixParts 60 = .ok (.lreturn, 1) := by decide +kernel
theorem dX6_mixReader_0 : decode cX6_mixReader 0 = .ok (.lload_n 1, 1) := by decide +kernel
theorem dX6_mixReader_1 : decode cX6_mixReader 1 = .ok (.lstore 4, 2) := by decide +kernel
theorem dX6_mixReader_3 : decode cX6_mixReader 3 = .ok (.iconst 0, 1) := by decide +kernel
theorem dX6_mixReader_4 : decode cX6_mixReader 4 = .ok (.istore 6, 2) := by decide +kernel
theorem dX6_mixReader_6 : decode cX6_mixReader 6 = .ok (.iload 6, 2) := by decide +kernel
theorem dX6_mixReader_8 : decode cX6_mixReader 8 = .ok (.aload_n 0, 1) := by decide +kernel
theorem dX6_mixReader_9 : decode cX6_mixReader 9 = .ok (.getfield 10, 3) := by decide +kernel
theorem dX6_mixReader_12 : decode cX6_mixReader 12 = .ok (.getfield 41, 3) := by decide +kernel
theorem dX6_mixReader_15 : decode cX6_mixReader 15 = .ok (.getfield 45, 3) := by decide +kernel
theorem dX6_mixReader_18 : decode cX6_mixReader 18 = .ok (.if_icmp .ge 30, 3) := by decide +kernel
theorem dX6_mixReader_21 : decode cX6_mixReader 21 = .ok (.lload 4, 2) := by decide +kernel
theorem dX6_mixReader_23 : decode cX6_mixReader 23 = .ok (.aload_n 0, 1) := by decide +kernel
theorem dX6_mixReader_24 : decode cX6_mixReader 24 = .ok (.getfield 10, 3) := by decide +kernel
theorem dX6_mixReader_27 : decode cX6_mixReader 27 = .ok (.getfield 74, 3) := by decide +kernel
theorem dX6_mixReader_30 : decode cX6_mixReader 30 = .ok (.iload_n 3, 1) := by decide +kernel
theorem dX6_mixReader_31 : decode cX6_mixReader 31 = .ok (.iload 6, 2) := by decide +kernel
theorem dX6_mixReader_33 : decode cX6_mixReader 33 = .ok (.invokevirtual 174, 3) := by decide +kernel
theorem dX6_mixReader_36 : decode cX6_mixReader 36 = .ok (.i2l, 1) := by decide +kernel
theorem dX6_mixReader_37 : decode cX6_mixReader 37 = .ok (.invokestatic 206, 3) := by decide +kernel
theorem dX6_mixReader_40 : decode cX6_mixReader 40 = .ok (.lstore 4, 2) := by decide +kernel
theorem dX6_mixReader_42 : decode cX6_mixReader 42 = .ok (.iinc 6 1, 3) := by decide +kernel
theorem dX6_mixReader_45 : decode cX6_mixReader 45 = .ok (.goto (-39), 3) := by decide +kernel
theorem dX6_mixReader_48 : decode cX6_mixReader 48 = .ok (.iconst 0, 1) := by decide +kernel
theorem dX6_mixReader_49 : decode cX6_mixReader 49 = .ok (.istore 6, 2) := by decide +kernel
theorem dX6_mixReader_51 : decode cX6_mixReader 51 = .ok (.iload 6, 2) := by decide +kernel
theorem dX6_mixReader_53 : decode cX6_mixReader 53 = .ok (.bipush 6, 2) := by decide +kernel
theorem dX6_mixReader_55 : decode cX6_mixReader 55 = .ok (.if_icmp .gt 27, 3) := by decide +kernel
theorem dX6_mixReader_58 : decode cX6_mixReader 58 = .ok (.lload 4, 2) := by decide +kernel
theorem dX6_mixReader_60 : decode cX6_mixReader 60 = .ok (.aload_n 0, 1) := by decide +kernel
theorem dX6_mixReader_61 : decode cX6_mixReader 61 = .ok (.getfield 10, 3) := by decide +kernel
theorem dX6_mixReader_64 : decode cX6_mixReader 64 = .ok (.iload_n 3, 1) := by decide +kernel
theorem dX6_mixReader_65 : decode cX6_mixReader 65 = .ok (.iload 6, 2) := by decide +kernel
theorem dX6_mixReader_67 : decode cX6_mixReader 67 = .ok (.invokevirtual 177, 3) := by decide +kernel
theorem dX6_mixReader_70 : decode cX6_mixReader 70 = .ok (.i2l, 1) := by decide +kernel
theorem dX6_mixReader_71 : decode cX6_mixReader 71 = .ok (.invokestatic 206, 3) := by decide +kernel
theorem dX6_mixReader_74 : decode cX6_mixReader 74 = .ok (.lstore 4, 2) := by decide +kernel
theorem dX6_mixReader_76 : decode cX6_mixReader 76 = .ok (.iinc 6 1, 3) := by decide +kernel
theorem dX6_mixReader_79 : decode cX6_mixReader 79 = .ok (.goto (-28), 3) := by decide +kernel
theorem dX6_mixReader_82 : decode cX6_mixReader 82 = .ok (.lload 4, 2) := by decide +kernel
theorem dX6_mixReader_84 : decode cX6_mixReader 84 = .ok (.aload_n 0, 1) := by decide +kernel
theorem dX6_mixReader_85 : decode cX6_mixReader 85 = .ok (.getfield 10, 3) := by decide +kernel
theorem dX6_mixReader_88 : decode cX6_mixReader 88 = .ok (.iload_n 3, 1) := by decide +kernel
theorem dX6_mixReader_89 : decode cX6_mixReader 89 = .ok (.invokevirtual 194, 3) := by decide +kernel
theorem dX6_mixReader_92 : decode cX6_mixReader 92 = .ok (.i2l, 1) := by decide +kernel
theorem dX6_mixReader_93 : decode cX6_mixReader 93 = .ok (.invokestatic 206, 3) := by decide +kernel
theorem dX6_mixReader_96 : decode cX6_mixReader 96 = .ok (.lstore 4, 2) := by decide +kernel
theorem dX6_mixReader_98 : decode cX6_mixReader 98 = .ok (.lload 4, 2) := by decide +kernel
theorem dX6_mixReader_100 : decode cX6_mixReader 100 = .ok (.aload_n 0, 1) := by decide +kernel
theorem dX6_mixReader_101 : decode cX6_mixReader 101 = .ok (.getfield 10, 3) := by decide +kernel
theorem dX6_mixReader_104 : decode cX6_mixReader 104 = .ok (.iload_n 3, 1) := by decide +kernel
theorem dX6_mixReader_105 : decode cX6_mixReader 105 = .ok (.invokevirtual 197, 3) := by decide +kernel
theorem dX6_mixReader_108 : decode cX6_mixReader 108 = .ok (.i2l, 1) := by decide +kernel
theorem dX6_mixReader_109 : decode cX6_mixReader 109 = .ok (.invokestatic 206, 3) := by decide +kernel
theorem dX6_mixReader_112 : decode cX6_mixReader 112 = .ok (.lstore 4, 2) := by decide +kernel
theorem dX6_mixReader_114 : decode cX6_mixReader 114 = .ok (.aload_n 0, 1) := by decide +kernel
theorem dX6_mixReader_115 : decode cX6_mixReader 115 = .ok (.getfield 10, 3) := by decide +kernel
theorem dX6_mixReader_118 : decode cX6_mixReader 118 = .ok (.getfield 41, 3) := by decide +kernel
theorem dX6_mixReader_121 : decode cX6_mixReader 121 = .ok (.getfield 45, 3) := by decide +kernel
theorem dX6_mixReader_124 : decode cX6_mixReader 124 = .ok (.ifCond .le 48, 3) := by decide +kernel
theorem dX6_mixReader_127 : decode cX6_mixReader 127 = .ok (.iconst 0, 1) := by decide +kernel
theorem dX6_mixReader_128 : decode cX6_mixReader 128 = .ok (.istore 6, 2) := by decide +kernel
theorem dX6_mixReader_130 : decode cX6_mixReader 130 = .ok (.iload 6, 2) := by decide +kernel
theorem dX6_mixReader_132 : decode cX6_mixReader 132 = .ok (.iconst 4, 1) := by decide +kernel
theorem dX6_mixReader_133 : decode cX6_mixReader 133 = .ok (.if_icmp .gt 39, 3) := by decide +kernel
theorem dX6_mixReader_136 : decode cX6_mixReader 136 = .ok (.lload 4, 2) := by decide +kernel
theorem dX6_mixReader_138 : decode cX6_mixReader 138 = .ok (.aload_n 0, 1) := by decide +kernel
theorem dX6_mixReader_139 : decode cX6_mixReader 139 = .ok (.getfield 10, 3) := by decide +kernel
theorem dX6_mixReader_142 : decode cX6_mixReader 142 = .ok (.iload_n 3, 1) := by decide +kernel
theorem dX6_mixReader_143 : decode cX6_mixReader 143 = .ok (.aload_n 0, 1) := by decide +kernel
theorem dX6_mixReader_144 : decode cX6_mixReader 144 = .ok (.getfield 10, 3) := by decide +kernel
theorem dX6_mixReader_147 : decode cX6_mixReader 147 = .ok (.getfield 41, 3) := by decide +kernel
theorem dX6_mixReader_150 : decode cX6_mixReader 150 = .ok (.getfield 45, 3) := by decide +kernel
theorem dX6_mixReader_153 : decode cX6_mixReader 153 = .ok (.iconst 1, 1) := by decide +kernel
theorem dX6_mixReader_154 : decode cX6_mixReader 154 = .ok (.isub, 1) := by decide +kernel
theorem dX6_mixReader_155 : decode cX6_mixReader 155 = .ok (.iload 6, 2) := by decide +kernel
theorem dX6_mixReader_157 : decode cX6_mixReader 157 = .ok (.invokevirtual 191, 3) := by decide +kernel
theorem dX6_mixReader_160 : decode cX6_mixReader 160 = .ok (.i2l, 1) := by decide +kernel
theorem dX6_mixReader_161 : decode cX6_mixReader 161 = .ok (.invokestatic 206, 3) := by decide +kernel
theorem dX6_mixReader_164 : decode cX6_mixReader 164 = .ok (.lstore 4, 2) := by decide +kernel
theorem dX6_mixReader_166 : decode cX6_mixReader 166 = .ok (.iinc 6 1, 3) := by decide +kernel
theorem dX6_mixReader_169 : decode cX6_mixReader 169 = .ok (.goto (-39), 3) := by decide +kernel
theorem dX6_mixReader_172 : decode cX6_mixReader 172 = .ok (.lload 4, 2) := by decide +kernel
theorem dX6_mixReader_174 : decode cX6_mixReader 174 = .ok (.lreturn, 1) := by decide +kernel
theorem dX6_mixPlots_0 : decode cX6_mixPlots 0 = .ok (.lload_n 1, 1) := by decide +kernel
theorem dX6_mixPlots_1 : decode cX6_mixPlots 1 = .ok (.lstore_n 3, 1) := by decide +kernel
theorem dX6_mixPlots_2 : decode cX6_mixPlots 2 = .ok (.iconst 0, 1) := by decide +kernel
theorem dX6_mixPlots_3 : decode cX6_mixPlots 3 = .ok (.istore 5, 2) := by decide +kernel
theorem dX6_mixPlots_5 : decode cX6_mixPlots 5 = .ok (.iload 5, 2) := by decide +kernel
theorem dX6_mixPlots_7 : decode cX6_mixPlots 7 = .ok (.bipush 6, 2) := by decide +kernel
theorem dX6_mixPlots_9 : decode cX6_mixPlots 9 = .ok (.if_icmp .ge 41, 3) := by decide +kernel
theorem dX6_mixPlots_12 : decode cX6_mixPlots 12 = .ok (.iconst 0, 1) := by decide +kernel
theorem dX6_mixPlots_13 : decode cX6_mixPlots 13 = .ok (.istore 6, 2) := by decide +kernel
theorem dX6_mixPlots_15 : decode cX6_mixPlots 15 = .ok (.iload 6, 2) := by decide +kernel
theorem dX6_mixPlots_17 : decode cX6_mixPlots 17 = .ok (.iconst 3, 1) := by decide +kernel
theorem dX6_mixPlots_18 : decode cX6_mixPlots 18 = .ok (.if_icmp .gt 26, 3) := by decide +kernel
theorem dX6_mixPlots_21 : decode cX6_mixPlots 21 = .ok (.lload_n 3, 1) := by decide +kernel
theorem dX6_mixPlots_22 : decode cX6_mixPlots 22 = .ok (.aload_n 0, 1) := by decide +kernel
theorem dX6_mixPlots_23 : decode cX6_mixPlots 23 = .ok (.getfield 10, 3) := by decide +kernel
theorem dX6_mixPlots_26 : decode cX6_mixPlots 26 = .ok (.iload 5, 2) := by decide +kernel
theorem dX6_mixPlots_28 : decode cX6_mixPlots 28 = .ok (.iload 6, 2) := by decide +kernel
theorem dX6_mixPlots_30 : decode cX6_mixPlots 30 = .ok (.invokevirtual 185, 3) := by decide +kernel
theorem dX6_mixPlots_33 : decode cX6_mixPlots 33 = .ok (.i2l, 1) := by decide +kernel
theorem dX6_mixPlots_34 : decode cX6_mixPlots 34 = .ok (.invokestatic 206, 3) := by decide +kernel
theorem dX6_mixPlots_37 : decode cX6_mixPlots 37 = .ok (.lstore_n 3, 1) := by decide +kernel
theorem dX6_mixPlots_38 : decode cX6_mixPlots 38 = .ok (.iinc 6 1, 3) := by decide +kernel
theorem dX6_mixPlots_41 : decode cX6_mixPlots 41 = .ok (.goto (-26), 3) := by decide +kernel
theorem dX6_mixPlots_44 : decode cX6_mixPlots 44 = .ok (.iinc 5 1, 3) := by decide +kernel
theorem dX6_mixPlots_47 : decode cX6_mixPlots 47 = .ok (.goto (-42), 3) := by decide +kernel
theorem dX6_mixPlots_50 : decode cX6_mixPlots 50 = .ok (.lload_n 3, 1) := by decide +kernel
theorem dX6_mixPlots_51 : decode cX6_mixPlots 51 = .ok (.lreturn, 1) := by decide +kernel
theorem dX6_mixText_0 : decode cX6_mixText 0 = .ok (.lload_n 1, 1) := by decide +kernel
theorem dX6_mixText_1 : decode cX6_mixText 1 = .ok (.aload_n 0, 1) := by decide +kernel
theorem dX6_mixText_2 : decode cX6_mixText 2 = .ok (.getfield 26, 3) := by decide +kernel
theorem dX6_mixText_5 : decode cX6_mixText 5 = .ok (.getfield 127, 3) := by decide +kernel
theorem dX6_mixText_8 : decode cX6_mixText 8 = .ok (.i2l, 1) := by decide +kernel
theorem dX6_mixText_9 : decode cX6_mixText 9 = .ok (.invokestatic 206, 3) := by decide +kernel
theorem dX6_mixText_12 : decode cX6_mixText 12 = .ok (.lstore_n 3, 1) := by decide +kernel
theorem dX6_mixText_13 : decode cX6_mixText 13 = .ok (.iconst 0, 1) := by decide +kernel
theorem dX6_mixText_14 : decode cX6_mixText 14 = .ok (.istore 5, 2) := by decide +kernel
theorem dX6_mixText_16 : decode cX6_mixText 16 = .ok (.iload 5, 2) := by decide +kernel
theorem dX6_mixText_18 : decode cX6_mixText 18 = .ok (.aload_n 0, 1) := by decide +kernel
theorem dX6_mixText_19 : decode cX6_mixText 19 = .ok (.getfield 26, 3) := by decide +kernel
theorem dX6_mixText_22 : decode cX6_mixText 22 = .ok (.getfield 127, 3) := by decide +kernel
theorem dX6_mixText_25 : decode cX6_mixText 25 = .ok (.if_icmp .ge 25, 3) := by decide +kernel
theorem dX6_mixText_28 : decode cX6_mixText 28 = .ok (.lload_n 3, 1) := by decide +kernel
theorem dX6_mixText_29 : decode cX6_mixText 29 = .ok (.aload_n 0, 1) := by decide +kernel
theorem dX6_mixText_30 : decode cX6_mixText 30 = .ok (.getfield 26, 3) := by decide +kernel
theorem dX6_mixText_33 : decode cX6_mixText 33 = .ok (.getfield 230, 3) := by decide +kernel
theorem dX6_mixText_36 : decode cX6_mixText 36 = .ok (.iload 5, 2) := by decide +kernel
theorem dX6_mixText_38 : decode cX6_mixText 38 = .ok (.iaload, 1) := by decide +kernel
theorem dX6_mixText_39 : decode cX6_mixText 39 = .ok (.i2l, 1) := by decide +kernel
theorem dX6_mixText_40 : decode cX6_mixText 40 = .ok (.invokestatic 206, 3) := by decide +kernel
theorem dX6_mixText_43 : decode cX6_mixText 43 = .ok (.lstore_n 3, 1) := by decide +kernel
theorem dX6_mixText_44 : decode cX6_mixText 44 = .ok (.iinc 5 1, 3) := by decide +kernel
theorem dX6_mixText_47 : decode cX6_mixText 47 = .ok (.goto (-31), 3) := by decide +kernel
theorem dX6_mixText_50 : decode cX6_mixText 50 = .ok (.lload_n 3, 1) := by decide +kernel
theorem dX6_mixText_51 : decode cX6_mixText 51 = .ok (.lreturn, 1) := by decide +kernel
theorem dX6_bitsOfShare_0 : decode cX6_bitsOfShare 0 = .ok (.dload_n 0, 1) := by decide +kernel
theorem dX6_bitsOfShare_1 : decode cX6_bitsOfShare 1 = .ok (.dconst 0, 1) := by decide +kernel
theorem dX6_bitsOfShare_2 : decode cX6_bitsOfShare 2 = .ok (.dcmp .g, 1) := by decide +kernel
theorem dX6_bitsOfShare_3 : decode cX6_bitsOfShare 3 = .ok (.ifCond .gt 5, 3) := by decide +kernel
theorem dX6_bitsOfShare_6 : decode cX6_bitsOfShare 6 = .ok (.lconst 0, 1) := by decide +kernel
theorem dX6_bitsOfShare_7 : decode cX6_bitsOfShare 7 = .ok (.lreturn, 1) := by decide +kernel
theorem dX6_bitsOfShare_8 : decode cX6_bitsOfShare 8 = .ok (.dload_n 0, 1) := by decide +kernel
theorem dX6_bitsOfShare_9 : decode cX6_bitsOfShare 9 = .ok (.dstore_n 2, 1) := by decide +kernel
theorem dX6_bitsOfShare_10 : decode cX6_bitsOfShare 10 = .ok (.ldc2_w 233, 3) := by decide +kernel
theorem dX6_bitsOfShare_13 : decode cX6_bitsOfShare 13 = .ok (.lstore 4, 2) := by decide +kernel
theorem dX6_bitsOfShare_15 : decode cX6_bitsOfShare 15 = .ok (.iconst 1, 1) := by decide +kernel
theorem dX6_bitsOfShare_16 : decode cX6_bitsOfShare 16 = .ok (.istore 6, 2) := by decide +kernel
theorem dX6_bitsOfShare_18 : decode cX6_bitsOfShare 18 = .ok (.iload 6, 2) := by decide +kernel
theorem dX6_bitsOfShare_20 : decode cX6_bitsOfShare 20 = .ok (.i2l, 1) := by decide +kernel
theorem dX6_bitsOfShare_21 : decode cX6_bitsOfShare 21 = .ok (.ldc2_w 233, 3) := by decide +kernel
theorem dX6_bitsOfShare_24 : decode cX6_bitsOfShare 24 = .ok (.lcmp, 1) := by decide +kernel
theorem dX6_bitsOfShare_25 : decode cX6_bitsOfShare 25 = .ok (.ifCond .ge 27, 3) := by decide +kernel
theorem dX6_bitsOfShare_28 : decode cX6_bitsOfShare 28 = .ok (.dload_n 2, 1) := by decide +kernel
theorem dX6_bitsOfShare_29 : decode cX6_bitsOfShare 29 = .ok (.dconst 1, 1) := by decide +kernel
theorem dX6_bitsOfShare_30 : decode cX6_bitsOfShare 30 = .ok (.dcmp .g, 1) := by decide +kernel
theorem dX6_bitsOfShare_31 : decode cX6_bitsOfShare 31 = .ok (.ifCond .ge 21, 3) := by decide +kernel
theorem dX6_bitsOfShare_34 : decode cX6_bitsOfShare 34 = .ok (.dload_n 2, 1) := by decide +kernel
theorem dX6_bitsOfShare_35 : decode cX6_bitsOfShare 35 = .ok (.ldc2_w 235, 3) := by decide +kernel
theorem dX6_bitsOfShare_38 : decode cX6_bitsOfShare 38 = .ok (.dmul, 1) := by decide +kernel
theorem dX6_bitsOfShare_39 : decode cX6_bitsOfShare 39 = .ok (.dstore_n 2, 1) := by decide +kernel
theorem dX6_bitsOfShare_40 : decode cX6_bitsOfShare 40 = .ok (.lload 4, 2) := by decide +kernel
theorem dX6_bitsOfShare_42 : decode cX6_bitsOfShare 42 = .ok (.lconst 1, 1) := by decide +kernel
theorem dX6_bitsOfShare_43 : decode cX6_bitsOfShare 43 = .ok (.lsub, 1) := by decide +kernel
theorem dX6_bitsOfShare_44 : decode cX6_bitsOfShare 44 = .ok (.lstore 4, 2) := by decide +kernel
theorem dX6_bitsOfShare_46 : decode cX6_bitsOfShare 46 = .ok (.iinc 6 1, 3) := by decide +kernel
theorem dX6_bitsOfShare_49 : decode cX6_bitsOfShare 49 = .ok (.goto (-31), 3) := by decide +kernel
theorem dX6_bitsOfShare_52 : decode cX6_bitsOfShare 52 = .ok (.lload 4, 2) := by decide +kernel
theorem dX6_bitsOfShare_54 : decode cX6_bitsOfShare 54 = .ok (.bipush 52, 2) := by decide +kernel
theorem dX6_bitsOfShare_56 : decode cX6_bitsOfShare 56 = .ok (.lshl, 1) := by decide +kernel
theorem dX6_bitsOfShare_57 : decode cX6_bitsOfShare 57 = .ok (.dload_n 2, 1) := by decide +kernel
theorem dX6_bitsOfShare_58 : decode cX6_bitsOfShare 58 = .ok (.dconst 1, 1) := by decide +kernel
theorem dX6_bitsOfShare_59 : decode cX6_bitsOfShare 59 = .ok (.dsub, 1) := by decide +kernel
theorem dX6_bitsOfShare_60 : decode cX6_bitsOfShare 60 = .ok (.ldc2_w 237, 3) := by decide +kernel
theorem dX6_bitsOfShare_63 : decode cX6_bitsOfShare 63 = .ok (.dmul, 1) := by decide +kernel
theorem dX6_bitsOfShare_64 : decode cX6_bitsOfShare 64 = .ok (.d2l, 1) := by decide +kernel
theorem dX6_bitsOfShare_65 : decode cX6_bitsOfShare 65 = .ok (.lor, 1) := by decide +kernel
theorem dX6_bitsOfShare_66 : decode cX6_bitsOfShare 66 = .ok (.lreturn, 1) := by decide +kernel
theorem dX6_total_0 : decode cX6_total 0 = .ok (.iload_n 1, 1) := by decide +kernel
theorem dX6_total_1 : decode cX6_total 1 = .ok (.bipush 6, 2) := by decide +kernel
theorem dX6_total_3 : decode cX6_total 3 = .ok (.if_icmp .ne 13, 3) := by decide +kernel
theorem dX6_total_6 : decode cX6_total 6 = .ok (.aload_n 0, 1) := by decide +kernel
theorem dX6_total_7 : decode cX6_total 7 = .ok (.getfield 19, 3) := by decide +kernel
theorem dX6_total_10 : decode cX6_total 10 = .ok (.getfield 165, 3) := by decide +kernel
theorem dX6_total_13 : decode cX6_total 13 = .ok (.goto 11, 3) := by decide +kernel
theorem dX6_total_16 : decode cX6_total 16 = .ok (.aload_n 0, 1) := by decide +kernel
theorem dX6_total_17 : decode cX6_total 17 = .ok (.getfield 10, 3) := by decide +kernel
theorem dX6_total_20 : decode cX6_total 20 = .ok (.iload_n 1, 1) := by decide +kernel
theorem dX6_total_21 : decode cX6_total 21 = .ok (.invokevirtual 239, 3) := by decide +kernel
theorem dX6_total_24 : decode cX6_total 24 = .ok (.ireturn, 1) := by decide +kernel
theorem dX6_checkPart_0 : decode cX6_checkPart 0 = .ok (.iload_n 1, 1) := by decide +kernel
theorem dX6_checkPart_1 : decode cX6_checkPart 1 = .ok (.ifCond .lt 17, 3) := by decide +kernel
theorem dX6_checkPart_4 : decode cX6_checkPart 4 = .ok (.iload_n 1, 1) := by decide +kernel
theorem dX6_checkPart_5 : decode cX6_checkPart 5 = .ok (.aload_n 0, 1) := by decide +kernel
theorem dX6_checkPart_6 : decode cX6_checkPart 6 = .ok (.getfield 10, 3) := by decide +kernel
theorem dX6_checkPart_9 : decode cX6_checkPart 9 = .ok (.getfield 41, 3) := by decide +kernel
theorem dX6_checkPart_12 : decode cX6_checkPart 12 = .ok (.getfield 45, 3) := by decide +kernel
theorem dX6_checkPart_15 : decode cX6_checkPart 15 = .ok (.if_icmp .lt 13, 3) := by decide +kernel
theorem dX6_checkPart_18 : decode cX6_checkPart 18 = .ok (.new 180, 3) := by decide +kernel
theorem dX6_checkPart_21 : decode cX6_checkPart 21 = .ok (.dup, 1) := by decide +kernel
theorem dX6_checkPart_22 : decode cX6_checkPart 22 = .ok (.ldc 242, 2) := by decide +kernel
theorem dX6_checkPart_24 : decode cX6_checkPart 24 = .ok (.invokespecial 184, 3) := by decide +kernel
theorem dX6_checkPart_27 : decode cX6_checkPart 27 = .ok (.athrow, 1) := by decide +kernel
theorem dX6_checkPart_28 : decode cX6_checkPart 28 = .ok (.return_, 1) := by decide +kernel
theorem dX6_checkReader_0 : decode cX6_checkReader 0 = .ok (.iload_n 0, 1) := by decide +kernel
theorem dX6_checkReader_1 : decode cX6_checkReader 1 = .ok (.ifCond .lt 9, 3) := by decide +kernel
theorem dX6_checkReader_4 : decode cX6_checkReader 4 = .ok (.iload_n 0, 1) := by decide +kernel
theorem dX6_checkReader_5 : decode cX6_checkReader 5 = .ok (.bipush 6, 2) := by decide +kernel
theorem dX6_checkReader_7 : decode cX6_checkReader 7 = .ok (.if_icmp .lt 13, 3) := by decide +kernel
theorem dX6_checkReader_10 : decode cX6_checkReader 10 = .ok (.new 180, 3) := by decide +kernel
theorem dX6_checkReader_13 : decode cX6_checkReader 13 = .ok (.dup, 1) := by decide +kernel
theorem dX6_checkReader_14 : decode cX6_checkReader 14 = .ok (.ldc 244, 2) := by decide +kernel
theorem dX6_checkReader_16 : decode cX6_checkReader 16 = .ok (.invokespecial 184, 3) := by decide +kernel
theorem dX6_checkReader_19 : decode cX6_checkReader 19 = .ok (.athrow, 1) := by decide +kernel
theorem dX6_checkReader_20 : decode cX6_checkReader 20 = .ok (.return_, 1) := by decide +kernel
theorem dX6_checkSetting_0 : decode cX6_checkSetting 0 = .ok (.iload_n 0, 1) := by decide +kernel
theorem dX6_checkSetting_1 : decode cX6_checkSetting 1 = .ok (.ifCond .lt 8, 3) := by decide +kernel
theorem dX6_checkSetting_4 : decode cX6_checkSetting 4 = .ok (.iload_n 0, 1) := by decide +kernel
theorem dX6_checkSetting_5 : decode cX6_checkSetting 5 = .ok (.iconst 2, 1) := by decide +kernel
theorem dX6_checkSetting_6 : decode cX6_checkSetting 6 = .ok (.if_icmp .lt 13, 3) := by decide +kernel
theorem dX6_checkSetting_9 : decode cX6_checkSetting 9 = .ok (.new 180, 3) := by decide +kernel
theorem dX6_checkSetting_12 : decode cX6_checkSetting 12 = .ok (.dup, 1) := by decide +kernel
theorem dX6_checkSetting_13 : decode cX6_checkSetting 13 = .ok (.ldc 246, 2) := by decide +kernel
theorem dX6_checkSetting_15 : decode cX6_checkSetting 15 = .ok (.invokespecial 184, 3) := by decide +kernel
theorem dX6_checkSetting_18 : decode cX6_checkSetting 18 = .ok (.athrow, 1) := by decide +kernel
theorem dX6_checkSetting_19 : decode cX6_checkSetting 19 = .ok (.return_, 1) := by decide +kernel
theorem dX6_checkWhat_0 : decode cX6_checkWhat 0 = .ok (.iload_n 0, 1) := by decide +kernel
theorem dX6_checkWhat_1 : decode cX6_checkWhat 1 = .ok (.ifCond .lt 8, 3) := by decide +kernel
theorem dX6_checkWhat_4 : decode cX6_checkWhat 4 = .ok (.iload_n 0, 1) := by decide +kernel
theorem dX6_checkWhat_5 : decode cX6_checkWhat 5 = .ok (.iload_n 1, 1) := by decide +kernel
theorem dX6_checkWhat_6 : decode cX6_checkWhat 6 = .ok (.if_icmp .le 13, 3) := by decide +kernel
theorem dX6_checkWhat_9 : decode cX6_checkWhat 9 = .ok (.new 34, 3) := by decide +kernel
theorem dX6_checkWhat_12 : decode cX6_checkWhat 12 = .ok (.dup, 1) := by decide +kernel
theorem dX6_checkWhat_13 : decode cX6_checkWhat 13 = .ok (.ldc 248, 2) := by decide +kernel
theorem dX6_checkWhat_15 : decode cX6_checkWhat 15 = .ok (.invokespecial 38, 3) := by decide +kernel
theorem dX6_checkWhat_18 : decode cX6_checkWhat 18 = .ok (.athrow, 1) := by decide +kernel
theorem dX6_checkWhat_19 : decode cX6_checkWhat 19 = .ok (.return_, 1) := by decide +kernel
theorem dX6_checkPlots_0 : decode cX6_checkPlots 0 = .ok (.iload_n 0, 1) := by decide +kernel
theorem dX6_checkPlots_1 : decode cX6_checkPlots 1 = .ok (.iconst 1, 1) := by decide +kernel
theorem dX6_checkPlots_2 : decode cX6_checkPlots 2 = .ok (.if_icmp .lt 9, 3) := by decide +kernel
theorem dX6_checkPlots_5 : decode cX6_checkPlots 5 = .ok (.iload_n 0, 1) := by decide +kernel
theorem dX6_checkPlots_6 : decode cX6_checkPlots 6 = .ok (.bipush 63, 2) := by decide +kernel
theorem dX6_checkPlots_8 : decode cX6_checkPlots 8 = .ok (.if_icmp .le 13, 3) := by decide +kernel
theorem dX6_checkPlots_11 : decode cX6_checkPlots 11 = .ok (.new 34, 3) := by decide +kernel
theorem dX6_checkPlots_14 : decode cX6_checkPlots 14 = .ok (.dup, 1) := by decide +kernel
theorem dX6_checkPlots_15 : decode cX6_checkPlots 15 = .ok (.ldc 250, 2) := by decide +kernel
theorem dX6_checkPlots_17 : decode cX6_checkPlots 17 = .ok (.invokespecial 38, 3) := by decide +kernel
theorem dX6_checkPlots_20 : decode cX6_checkPlots 20 = .ok (.athrow, 1) := by decide +kernel
theorem dX6_checkPlots_21 : decode cX6_checkPlots 21 = .ok (.iload_n 1, 1) := by decide +kernel
theorem dX6_checkPlots_22 : decode cX6_checkPlots 22 = .ok (.iconst (-1), 1) := by decide +kernel
theorem dX6_checkPlots_23 : decode cX6_checkPlots 23 = .ok (.if_icmp .ne 4, 3) := by decide +kernel
theorem dX6_checkPlots_26 : decode cX6_checkPlots 26 = .ok (.return_, 1) := by decide +kernel
theorem dX6_checkPlots_27 : decode cX6_checkPlots 27 = .ok (.iload_n 1, 1) := by decide +kernel
theorem dX6_checkPlots_28 : decode cX6_checkPlots 28 = .ok (.ifCond .lt 17, 3) := by decide +kernel
theorem dX6_checkPlots_31 : decode cX6_checkPlots 31 = .ok (.iload_n 1, 1) := by decide +kernel
theorem dX6_checkPlots_32 : decode cX6_checkPlots 32 = .ok (.bipush 6, 2) := by decide +kernel
theorem dX6_checkPlots_34 : decode cX6_checkPlots 34 = .ok (.if_icmp .ge 11, 3) := by decide +kernel
theorem dX6_checkPlots_37 : decode cX6_checkPlots 37 = .ok (.iload_n 0, 1) := by decide +kernel
theorem dX6_checkPlots_38 : decode cX6_checkPlots 38 = .ok (.iload_n 1, 1) := by decide +kernel
theorem dX6_checkPlots_39 : decode cX6_checkPlots 39 = .ok (.invokestatic 252, 3) := by decide +kernel
theorem dX6_checkPlots_42 : decode cX6_checkPlots 42 = .ok (.ifCond .ne 13, 3) := by decide +kernel
theorem dX6_checkPlots_45 : decode cX6_checkPlots 45 = .ok (.new 34, 3) := by decide +kernel
theorem dX6_checkPlots_48 : decode cX6_checkPlots 48 = .ok (.dup, 1) := by decide +kernel
theorem dX6_checkPlots_49 : decode cX6_checkPlots 49 = .ok (.ldc 255, 2) := by decide +kernel
theorem dX6_checkPlots_51 : decode cX6_checkPlots 51 = .ok (.invokespecial 38, 3) := by decide +kernel
theorem dX6_checkPlots_54 : decode cX6_checkPlots 54 = .ok (.athrow, 1) := by decide +kernel
theorem dX6_checkPlots_55 : decode cX6_checkPlots 55 = .ok (.return_, 1) := by decide +kernel
theorem dX6_isIn_0 : decode cX6_isIn 0 = .ok (.iload_n 0, 1) := by decide +kernel
theorem dX6_isIn_1 : decode cX6_isIn 1 = .ok (.iload_n 1, 1) := by decide +kernel
theorem dX6_isIn_2 : decode cX6_isIn 2 = .ok (.ishr, 1) := by decide +kernel
theorem dX6_isIn_3 : decode cX6_isIn 3 = .ok (.iconst 1, 1) := by decide +kernel
theorem dX6_isIn_4 : decode cX6_isIn 4 = .ok (.iand, 1) := by decide +kernel
theorem dX6_isIn_5 : decode cX6_isIn 5 = .ok (.iconst 1, 1) := by decide +kernel
theorem dX6_isIn_6 : decode cX6_isIn 6 = .ok (.if_icmp .ne 7, 3) := by decide +kernel
theorem dX6_isIn_9 : decode cX6_isIn 9 = .ok (.iconst 1, 1) := by decide +kernel
theorem dX6_isIn_10 : decode cX6_isIn 10 = .ok (.goto 4, 3) := by decide +kernel
theorem dX6_isIn_13 : decode cX6_isIn 13 = .ok (.iconst 0, 1) := by decide +kernel
theorem dX6_isIn_14 : decode cX6_isIn 14 = .ok (.ireturn, 1) := by decide +kernel
theorem dJ6_bitCount_0f7a4_0 : decode cJ6_bitCount_0f7a4 0 = .ok (.iload_n 0, 1) := by decide +kernel
theorem dJ6_bitCount_0f7a4_1 : decode cJ6_bitCount_0f7a4 1 = .ok (.iload_n 0, 1) := by decide +kernel
theorem dJ6_bitCount_0f7a4_2 : decode cJ6_bitCount_0f7a4 2 = .ok (.iconst 1, 1) := by decide +kernel
theorem dJ6_bitCount_0f7a4_3 : decode cJ6_bitCount_0f7a4 3 = .ok (.iushr, 1) := by decide +kernel
theorem dJ6_bitCount_0f7a4_4 : decode cJ6_bitCount_0f7a4 4 = .ok (.ldc_w 265, 3) := by decide +kernel
theorem dJ6_bitCount_0f7a4_7 : decode cJ6_bitCount_0f7a4 7 = .ok (.iand, 1) := by decide +kernel
theorem dJ6_bitCount_0f7a4_8 : decode cJ6_bitCount_0f7a4 8 = .ok (.isub, 1) := by decide +kernel
theorem dJ6_bitCount_0f7a4_9 : decode cJ6_bitCount_0f7a4 9 = .ok (.istore_n 0, 1) := by decide +kernel
theorem dJ6_bitCount_0f7a4_10 : decode cJ6_bitCount_0f7a4 10 = .ok (.iload_n 0, 1) := by decide +kernel
theorem dJ6_bitCount_0f7a4_11 : decode cJ6_bitCount_0f7a4 11 = .ok (.ldc_w 266, 3) := by decide +kernel
theorem dJ6_bitCount_0f7a4_14 : decode cJ6_bitCount_0f7a4 14 = .ok (.iand, 1) := by decide +kernel
theorem dJ6_bitCount_0f7a4_15 : decode cJ6_bitCount_0f7a4 15 = .ok (.iload_n 0, 1) := by decide +kernel
theorem dJ6_bitCount_0f7a4_16 : decode cJ6_bitCount_0f7a4 16 = .ok (.iconst 2, 1) := by decide +kernel
theorem dJ6_bitCount_0f7a4_17 : decode cJ6_bitCount_0f7a4 17 = .ok (.iushr, 1) := by decide +kernel
theorem dJ6_bitCount_0f7a4_18 : decode cJ6_bitCount_0f7a4 18 = .ok (.ldc_w 266, 3) := by decide +kernel
theorem dJ6_bitCount_0f7a4_21 : decode cJ6_bitCount_0f7a4 21 = .ok (.iand, 1) := by decide +kernel
theorem dJ6_bitCount_0f7a4_22 : decode cJ6_bitCount_0f7a4 22 = .ok (.iadd, 1) := by decide +kernel
theorem dJ6_bitCount_0f7a4_23 : decode cJ6_bitCount_0f7a4 23 = .ok (.istore_n 0, 1) := by decide +kernel
theorem dJ6_bitCount_0f7a4_24 : decode cJ6_bitCount_0f7a4 24 = .ok (.iload_n 0, 1) := by decide +kernel
theorem dJ6_bitCount_0f7a4_25 : decode cJ6_bitCount_0f7a4 25 = .ok (.iload_n 0, 1) := by decide +kernel
theorem dJ6_bitCount_0f7a4_26 : decode cJ6_bitCount_0f7a4 26 = .ok (.iconst 4, 1) := by decide +kernel
theorem dJ6_bitCount_0f7a4_27 : decode cJ6_bitCount_0f7a4 27 = .ok (.iushr, 1) := by decide +kernel
theorem dJ6_bitCount_0f7a4_28 : decode cJ6_bitCount_0f7a4 28 = .ok (.iadd, 1) := by decide +kernel
theorem dJ6_bitCount_0f7a4_29 : decode cJ6_bitCount_0f7a4 29 = .ok (.ldc_w 267, 3) := by decide +kernel
theorem dJ6_bitCount_0f7a4_32 : decode cJ6_bitCount_0f7a4 32 = .ok (.iand, 1) := by decide +kernel
theorem dJ6_bitCount_0f7a4_33 : decode cJ6_bitCount_0f7a4 33 = .ok (.istore_n 0, 1) := by decide +kernel
theorem dJ6_bitCount_0f7a4_34 : decode cJ6_bitCount_0f7a4 34 = .ok (.iload_n 0, 1) := by decide +kernel
theorem dJ6_bitCount_0f7a4_35 : decode cJ6_bitCount_0f7a4 35 = .ok (.iload_n 0, 1) := by decide +kernel
theorem dJ6_bitCount_0f7a4_36 : decode cJ6_bitCount_0f7a4 36 = .ok (.bipush 8, 2) := by decide +kernel
theorem dJ6_bitCount_0f7a4_38 : decode cJ6_bitCount_0f7a4 38 = .ok (.iushr, 1) := by decide +kernel
theorem dJ6_bitCount_0f7a4_39 : decode cJ6_bitCount_0f7a4 39 = .ok (.iadd, 1) := by decide +kernel
theorem dJ6_bitCount_0f7a4_40 : decode cJ6_bitCount_0f7a4 40 = .ok (.istore_n 0, 1) := by decide +kernel
theorem dJ6_bitCount_0f7a4_41 : decode cJ6_bitCount_0f7a4 41 = .ok (.iload_n 0, 1) := by decide +kernel
theorem dJ6_bitCount_0f7a4_42 : decode cJ6_bitCount_0f7a4 42 = .ok (.iload_n 0, 1) := by decide +kernel
theorem dJ6_bitCount_0f7a4_43 : decode cJ6_bitCount_0f7a4 43 = .ok (.bipush 16, 2) := by decide +kernel
theorem dJ6_bitCount_0f7a4_45 : decode cJ6_bitCount_0f7a4 45 = .ok (.iushr, 1) := by decide +kernel
theorem dJ6_bitCount_0f7a4_46 : decode cJ6_bitCount_0f7a4 46 = .ok (.iadd, 1) := by decide +kernel
theorem dJ6_bitCount_0f7a4_47 : decode cJ6_bitCount_0f7a4 47 = .ok (.istore_n 0, 1) := by decide +kernel
theorem dJ6_bitCount_0f7a4_48 : decode cJ6_bitCount_0f7a4 48 = .ok (.iload_n 0, 1) := by decide +kernel
theorem dJ6_bitCount_0f7a4_49 : decode cJ6_bitCount_0f7a4 49 = .ok (.bipush 63, 2) := by decide +kernel
theorem dJ6_bitCount_0f7a4_51 : decode cJ6_bitCount_0f7a4 51 = .ok (.iand, 1) := by decide +kernel
theorem dJ6_bitCount_0f7a4_52 : decode cJ6_bitCount_0f7a4 52 = .ok (.ireturn, 1) := by decide +kernel
theorem dJ9_max_7cf53_0 : decode cJ9_max_7cf53 0 = .ok (.iload_n 0, 1) := by decide +kernel
theorem dJ9_max_7cf53_1 : decode cJ9_max_7cf53 1 = .ok (.iload_n 1, 1) := by decide +kernel
theorem dJ9_max_7cf53_2 : decode cJ9_max_7cf53 2 = .ok (.if_icmp .lt 7, 3) := by decide +kernel
theorem dJ9_max_7cf53_5 : decode cJ9_max_7cf53 5 = .ok (.iload_n 0, 1) := by decide +kernel
theorem dJ9_max_7cf53_6 : decode cJ9_max_7cf53 6 = .ok (.goto 4, 3) := by decide +kernel
theorem dJ9_max_7cf53_9 : decode cJ9_max_7cf53 9 = .ok (.iload_n 1, 1) := by decide +kernel
theorem dJ9_max_7cf53_10 : decode cJ9_max_7cf53 10 = .ok (.ireturn, 1) := by decide +kernel
theorem dL_part_0 : decode cL_part 0 = .ok (.iload_n 0, 1) := by decide +kernel
theorem dL_part_1 : decode cL_part 1 = .ok (.ldc 7, 2) := by decide +kernel
theorem dL_part_3 : decode cL_part 3 = .ok (.iand, 1) := by decide +kernel
theorem dL_part_4 : decode cL_part 4 = .ok (.iload_n 1, 1) := by decide +kernel
theorem dL_part_5 : decode cL_part 5 = .ok (.irem, 1) := by decide +kernel
theorem dL_part_6 : decode cL_part 6 = .ok (.ireturn, 1) := by decide +kernel
theorem dL_drawn_0 : decode cL_drawn 0 = .ok (.aload_n 0, 1) := by decide +kernel
theorem dL_drawn_1 : decode cL_drawn 1 = .ok (.arraylength, 1) := by decide +kernel
theorem dL_drawn_2 : decode cL_drawn 2 = .ok (.ifCond .ne 13, 3) := by decide +kernel
theorem dL_drawn_5 : decode cL_drawn 5 = .ok (.sipush 7919, 3) := by decide +kernel
theorem dL_drawn_8 : decode cL_drawn 8 = .ok (.iload_n 1, 1) := by decide +kernel
theorem dL_drawn_9 : decode cL_drawn 9 = .ok (.imul, 1) := by decide +kernel
theorem dL_drawn_10 : decode cL_drawn 10 = .ok (.iconst 3, 1) := by decide +kernel
theorem dL_drawn_11 : decode cL_drawn 11 = .ok (.iadd, 1) := by decide +kernel
theorem dL_drawn_12 : decode cL_drawn 12 = .ok (.goto 27, 3) := by decide +kernel
theorem dL_drawn_15 : decode cL_drawn 15 = .ok (.aload_n 0, 1) := by decide +kernel
theorem dL_drawn_16 : decode cL_drawn 16 = .ok (.iload_n 1, 1) := by decide +kernel
theorem dL_drawn_17 : decode cL_drawn 17 = .ok (.aload_n 0, 1) := by decide +kernel
theorem dL_drawn_18 : decode cL_drawn 18 = .ok (.arraylength, 1) := by decide +kernel
theorem dL_drawn_19 : decode cL_drawn 19 = .ok (.irem, 1) := by decide +kernel
theorem dL_drawn_20 : decode cL_drawn 20 = .ok (.iaload, 1) := by decide +kernel
theorem dL_drawn_21 : decode cL_drawn 21 = .ok (.iload_n 1, 1) := by decide +kernel
theorem dL_drawn_22 : decode cL_drawn 22 = .ok (.bipush 7, 2) := by decide +kernel
theorem dL_drawn_24 : decode cL_drawn 24 = .ok (.irem, 1) := by decide +kernel
theorem dL_drawn_25 : decode cL_drawn 25 = .ok (.ishr, 1) := by decide +kernel
theorem dL_drawn_26 : decode cL_drawn 26 = .ok (.iload_n 1, 1) := by decide +kernel
theorem dL_drawn_27 : decode cL_drawn 27 = .ok (.aload_n 0, 1) := by decide +kernel
theorem dL_drawn_28 : decode cL_drawn 28 = .ok (.arraylength, 1) := by decide +kernel
theorem dL_drawn_29 : decode cL_drawn 29 = .ok (.idiv, 1) := by decide +kernel
theorem dL_drawn_30 : decode cL_drawn 30 = .ok (.bipush 31, 2) := by decide +kernel
theorem dL_drawn_32 : decode cL_drawn 32 = .ok (.imul, 1) := by decide +kernel
theorem dL_drawn_33 : decode cL_drawn 33 = .ok (.ixor, 1) := by decide +kernel
theorem dL_drawn_34 : decode cL_drawn 34 = .ok (.iload_n 1, 1) := by decide +kernel
theorem dL_drawn_35 : decode cL_drawn 35 = .ok (.ldc 8, 2) := by decide +kernel
theorem dL_drawn_37 : decode cL_drawn 37 = .ok (.imul, 1) := by decide +kernel
theorem dL_drawn_38 : decode cL_drawn 38 = .ok (.ixor, 1) := by decide +kernel
theorem dL_drawn_39 : decode cL_drawn 39 = .ok (.ireturn, 1) := by decide +kernel
theorem dL_call_0 : decode cL_call 0 = .ok (.iload_n 1, 1) := by decide +kernel
theorem dL_call_1 : decode cL_call 1 = .ok (.tableswitch 218 0 18 #[91, 100, 109, 114, 121, 128, 135, 141, 147, 153, 158, 163, 170, 177, 184, 191, 197, 203, 212], 91) := by decide +kernel
theorem dL_call_92 : decode cL_call 92 = .ok (.aload_n 0, 1) := by decide +kernel
theorem dL_call_93 : decode cL_call 93 = .ok (.iload_n 2, 1) := by decide +kernel
theorem dL_call_94 : decode cL_call 94 = .ok (.iload_n 3, 1) := by decide +kernel
theorem dL_call_95 : decode cL_call 95 = .ok (.iload 4, 2) := by decide +kernel
theorem dL_call_97 : decode cL_call 97 = .ok (.invokevirtual 9, 3) := by decide +kernel
theorem dL_call_100 : decode cL_call 100 = .ok (.ireturn, 1) := by decide +kernel
theorem dL_call_101 : decode cL_call 101 = .ok (.aload_n 0, 1) := by decide +kernel
theorem dL_call_102 : decode cL_call 102 = .ok (.iload_n 2, 1) := by decide +kernel
theorem dL_call_103 : decode cL_call 103 = .ok (.iload_n 3, 1) := by decide +kernel
theorem dL_call_104 : decode cL_call 104 = .ok (.iload 4, 2) := by decide +kernel
theorem dL_call_106 : decode cL_call 106 = .ok (.invokevirtual 15, 3) := by decide +kernel
theorem dL_call_109 : decode cL_call 109 = .ok (.ireturn, 1) := by decide +kernel
theorem dL_call_110 : decode cL_call 110 = .ok (.aload_n 0, 1) := by decide +kernel
theorem dL_call_111 : decode cL_call 111 = .ok (.invokevirtual 18, 3) := by decide +kernel
theorem dL_call_114 : decode cL_call 114 = .ok (.ireturn, 1) := by decide +kernel
theorem dL_call_115 : decode cL_call 115 = .ok (.aload_n 0, 1) := by decide +kernel
theorem dL_call_116 : decode cL_call 116 = .ok (.iload_n 2, 1) := by decide +kernel
theorem dL_call_117 : decode cL_call 117 = .ok (.iload_n 3, 1) := by decide +kernel
theorem dL_call_118 : decode cL_call 118 = .ok (.invokevirtual 22, 3) := by decide +kernel
theorem dL_call_121 : decode cL_call 121 = .ok (.ireturn, 1) := by decide +kernel
theorem dL_call_122 : decode cL_call 122 = .ok (.aload_n 0, 1) := by decide +kernel
theorem dL_call_123 : decode cL_call 123 = .ok (.iload_n 2, 1) := by decide +kernel
theorem dL_call_124 : decode cL_call 124 = .ok (.iload_n 3, 1) := by decide +kernel
theorem dL_call_125 : decode cL_call 125 = .ok (.invokevirtual 26, 3) := by decide +kernel
theorem dL_call_128 : decode cL_call 128 = .ok (.ireturn, 1) := by decide +kernel
theorem dL_call_129 : decode cL_call 129 = .ok (.aload_n 0, 1) := by decide +kernel
theorem dL_call_130 : decode cL_call 130 = .ok (.iload_n 2, 1) := by decide +kernel
theorem dL_call_131 : decode cL_call 131 = .ok (.iload_n 3, 1) := by decide +kernel
theorem dL_call_132 : decode cL_call 132 = .ok (.invokevirtual 29, 3) := by decide +kernel
theorem dL_call_135 : decode cL_call 135 = .ok (.ireturn, 1) := by decide +kernel
theorem dL_call_136 : decode cL_call 136 = .ok (.aload_n 0, 1) := by decide +kernel
theorem dL_call_137 : decode cL_call 137 = .ok (.iload_n 2, 1) := by decide +kernel
theorem dL_call_138 : decode cL_call 138 = .ok (.invokevirtual 32, 3) := by decide +kernel
theorem dL_call_141 : decode cL_call 141 = .ok (.ireturn, 1) := by decide +kernel
theorem dL_call_142 : decode cL_call 142 = .ok (.aload_n 0, 1) := by decide +kernel
theorem dL_call_143 : decode cL_call 143 = .ok (.iload_n 2, 1) := by decide +kernel
theorem dL_call_144 : decode cL_call 144 = .ok (.invokevirtual 36, 3) := by decide +kernel
theorem dL_call_147 : decode cL_call 147 = .ok (.ireturn, 1) := by decide +kernel
theorem dL_call_148 : decode cL_call 148 = .ok (.aload_n 0, 1) := by decide +kernel
theorem dL_call_149 : decode cL_call 149 = .ok (.iload_n 2, 1) := by decide +kernel
theorem dL_call_150 : decode cL_call 150 = .ok (.invokevirtual 39, 3) := by decide +kernel
theorem dL_call_153 : decode cL_call 153 = .ok (.ireturn, 1) := by decide +kernel
theorem dL_call_154 : decode cL_call 154 = .ok (.aload_n 0, 1) := by decide +kernel
theorem dL_call_155 : decode cL_call 155 = .ok (.invokevirtual 42, 3) := by decide +kernel
theorem dL_call_158 : decode cL_call 158 = .ok (.ireturn, 1) := by decide +kernel
theorem dL_call_159 : decode cL_call 159 = .ok (.aload_n 0, 1) := by decide +kernel
theorem dL_call_160 : decode cL_call 160 = .ok (.invokevirtual 45, 3) := by decide +kernel
theorem dL_call_163 : decode cL_call 163 = .ok (.ireturn, 1) := by decide +kernel
theorem dL_call_164 : decode cL_call 164 = .ok (.aload_n 0, 1) := by decide +kernel
theorem dL_call_165 : decode cL_call 165 = .ok (.iload_n 2, 1) := by decide +kernel
theorem dL_call_166 : decode cL_call 166 = .ok (.iload_n 3, 1) := by decide +kernel
theorem dL_call_167 : decode cL_call 167 = .ok (.invokevirtual 48, 3) := by decide +kernel
theorem dL_call_170 : decode cL_call 170 = .ok (.ireturn, 1) := by decide +kernel
theorem dL_call_171 : decode cL_call 171 = .ok (.aload_n 0, 1) := by decide +kernel
theorem dL_call_172 : decode cL_call 172 = .ok (.iload_n 2, 1) := by decide +kernel
theorem dL_call_173 : decode cL_call 173 = .ok (.iload_n 3, 1) := by decide +kernel
theorem dL_call_174 : decode cL_call 174 = .ok (.invokevirtual 51, 3) := by decide +kernel
theorem dL_call_177 : decode cL_call 177 = .ok (.ireturn, 1) := by decide +kernel
theorem dL_call_178 : decode cL_call 178 = .ok (.aload_n 0, 1) := by decide +kernel
theorem dL_call_179 : decode cL_call 179 = .ok (.iload_n 2, 1) := by decide +kernel
theorem dL_call_180 : decode cL_call 180 = .ok (.iload_n 3, 1) := by decide +kernel
theorem dL_call_181 : decode cL_call 181 = .ok (.invokevirtual 54, 3) := by decide +kernel
theorem dL_call_184 : decode cL_call 184 = .ok (.ireturn, 1) := by decide +kernel
theorem dL_call_185 : decode cL_call 185 = .ok (.aload_n 0, 1) := by decide +kernel
theorem dL_call_186 : decode cL_call 186 = .ok (.iload_n 2, 1) := by decide +kernel
theorem dL_call_187 : decode cL_call 187 = .ok (.iload_n 3, 1) := by decide +kernel
theorem dL_call_188 : decode cL_call 188 = .ok (.invokevirtual 57, 3) := by decide +kernel
theorem dL_call_191 : decode cL_call 191 = .ok (.ireturn, 1) := by decide +kernel
theorem dL_call_192 : decode cL_call 192 = .ok (.aload_n 0, 1) := by decide +kernel
theorem dL_call_193 : decode cL_call 193 = .ok (.iload_n 2, 1) := by decide +kernel
theorem dL_call_194 : decode cL_call 194 = .ok (.invokevirtual 60, 3) := by decide +kernel
theorem dL_call_197 : decode cL_call 197 = .ok (.ireturn, 1) := by decide +kernel
theorem dL_call_198 : decode cL_call 198 = .ok (.aload_n 0, 1) := by decide +kernel
theorem dL_call_199 : decode cL_call 199 = .ok (.iload_n 2, 1) := by decide +kernel
theorem dL_call_200 : decode cL_call 200 = .ok (.invokevirtual 63, 3) := by decide +kernel
theorem dL_call_203 : decode cL_call 203 = .ok (.ireturn, 1) := by decide +kernel
theorem dL_call_204 : decode cL_call 204 = .ok (.aload_n 0, 1) := by decide +kernel
theorem dL_call_205 : decode cL_call 205 = .ok (.iload_n 2, 1) := by decide +kernel
theorem dL_call_206 : decode cL_call 206 = .ok (.iload_n 3, 1) := by decide +kernel
theorem dL_call_207 : decode cL_call 207 = .ok (.iload 4, 2) := by decide +kernel
theorem dL_call_209 : decode cL_call 209 = .ok (.invokevirtual 66, 3) := by decide +kernel
theorem dL_call_212 : decode cL_call 212 = .ok (.ireturn, 1) := by decide +kernel
theorem dL_call_213 : decode cL_call 213 = .ok (.aload_n 0, 1) := by decide +kernel
theorem dL_call_214 : decode cL_call 214 = .ok (.iload_n 2, 1) := by decide +kernel
theorem dL_call_215 : decode cL_call 215 = .ok (.invokevirtual 69, 3) := by decide +kernel
theorem dL_call_218 : decode cL_call 218 = .ok (.ireturn, 1) := by decide +kernel
theorem dL_call_219 : decode cL_call 219 = .ok (.aload_n 0, 1) := by decide +kernel
theorem dL_call_220 : decode cL_call 220 = .ok (.iload_n 2, 1) := by decide +kernel
theorem dL_call_221 : decode cL_call 221 = .ok (.invokevirtual 72, 3) := by decide +kernel
theorem dL_call_224 : decode cL_call 224 = .ok (.ireturn, 1) := by decide +kernel
theorem dL_told_0 : decode cL_told 0 = .ok (.aload_n 0, 1) := by decide +kernel
theorem dL_told_1 : decode cL_told 1 = .ok (.iload_n 1, 1) := by decide +kernel
theorem dL_told_2 : decode cL_told 2 = .ok (.iload_n 2, 1) := by decide +kernel
theorem dL_told_3 : decode cL_told 3 = .ok (.iload_n 3, 1) := by decide +kernel
theorem dL_told_4 : decode cL_told 4 = .ok (.iload 4, 2) := by decide +kernel
theorem dL_told_6 : decode cL_told 6 = .ok (.invokestatic 75, 3) := by decide +kernel
theorem dL_told_9 : decode cL_told 9 = .ok (.ireturn, 1) := by decide +kernel
theorem dL_told_10 : decode cL_told 10 = .ok (.astore 5, 2) := by decide +kernel
theorem dL_told_12 : decode cL_told 12 = .ok (.bipush (-11), 2) := by decide +kernel
theorem dL_told_14 : decode cL_told 14 = .ok (.ireturn, 1) := by decide +kernel
theorem dL_told_15 : decode cL_told 15 = .ok (.astore 5, 2) := by decide +kernel
theorem dL_told_17 : decode cL_told 17 = .ok (.bipush (-12), 2) := by decide +kernel
theorem dL_told_19 : decode cL_told 19 = .ok (.ireturn, 1) := by decide +kernel
theorem dL_told_20 : decode cL_told 20 = .ok (.astore 5, 2) := by decide +kernel
theorem dL_told_22 : decode cL_told 22 = .ok (.bipush (-13), 2) := by decide +kernel
theorem dL_told_24 : decode cL_told 24 = .ok (.ireturn, 1) := by decide +kernel
theorem dL_refusesAny_0 : decode cL_refusesAny 0 = .ok (.iload_n 1, 1) := by decide +kernel
theorem dL_refusesAny_1 : decode cL_refusesAny 1 = .ok (.ifCond .ne 7, 3) := by decide +kernel
theorem dL_refusesAny_4 : decode cL_refusesAny 4 = .ok (.iconst (-1), 1) := by decide +kernel
theorem dL_refusesAny_5 : decode cL_refusesAny 5 = .ok (.goto 8, 3) := by decide +kernel
theorem dL_refusesAny_8 : decode cL_refusesAny 8 = .ok (.aload_n 0, 1) := by decide +kernel
theorem dL_refusesAny_9 : decode cL_refusesAny 9 = .ok (.iconst 0, 1) := by decide +kernel
theorem dL_refusesAny_10 : decode cL_refusesAny 10 = .ok (.invokevirtual 60, 3) := by decide +kernel
theorem dL_refusesAny_13 : decode cL_refusesAny 13 = .ok (.istore_n 2, 1) := by decide +kernel
theorem dL_refusesAny_14 : decode cL_refusesAny 14 = .ok (.iload_n 1, 1) := by decide +kernel
theorem dL_refusesAny_15 : decode cL_refusesAny 15 = .ok (.ifCond .ne 7, 3) := by decide +kernel
theorem dL_refusesAny_18 : decode cL_refusesAny 18 = .ok (.iconst (-1), 1) := by decide +kernel
theorem dL_refusesAny_19 : decode cL_refusesAny 19 = .ok (.goto 5, 3) := by decide +kernel
theorem dL_refusesAny_22 : decode cL_refusesAny 22 = .ok (.bipush 6, 2) := by decide +kernel
theorem dL_refusesAny_24 : decode cL_refusesAny 24 = .ok (.istore_n 3, 1) := by decide +kernel
theorem dL_refusesAny_25 : decode cL_refusesAny 25 = .ok (.aload_n 0, 1) := by decide +kernel
theorem dL_refusesAny_26 : decode cL_refusesAny 26 = .ok (.iconst 0, 1) := by decide +kernel
theorem dL_refusesAny_27 : decode cL_refusesAny 27 = .ok (.iload_n 1, 1) := by decide +kernel
theorem dL_refusesAny_28 : decode cL_refusesAny 28 = .ok (.ifCond .ne 7, 3) := by decide +kernel
theorem dL_refusesAny_31 : decode cL_refusesAny 31 = .ok (.iconst 0, 1) := by decide +kernel
theorem dL_refusesAny_32 : decode cL_refusesAny 32 = .ok (.goto 5, 3) := by decide +kernel
theorem dL_refusesAny_35 : decode cL_refusesAny 35 = .ok (.bipush 64, 2) := by decide +kernel
theorem dL_refusesAny_37 : decode cL_refusesAny 37 = .ok (.iconst (-1), 1) := by decide +kernel
theorem dL_refusesAny_38 : decode cL_refusesAny 38 = .ok (.iconst 5, 1) := by decide +kernel
theorem dL_refusesAny_39 : decode cL_refusesAny 39 = .ok (.invokestatic 87, 3) := by decide +kernel
theorem dL_refusesAny_42 : decode cL_refusesAny 42 = .ok (.bipush (-11), 2) := by decide +kernel
theorem dL_refusesAny_44 : decode cL_refusesAny 44 = .ok (.if_icmp .ne 194, 3) := by decide +kernel
theorem dL_refusesAny_47 : decode cL_refusesAny 47 = .ok (.aload_n 0, 1) := by decide +kernel
theorem dL_refusesAny_48 : decode cL_refusesAny 48 = .ok (.iconst 0, 1) := by decide +kernel
theorem dL_refusesAny_49 : decode cL_refusesAny 49 = .ok (.iconst 1, 1) := by decide +kernel
theorem dL_refusesAny_50 : decode cL_refusesAny 50 = .ok (.iconst (-1), 1) := by decide +kernel
theorem dL_refusesAny_51 : decode cL_refusesAny 51 = .ok (.iload_n 1, 1) := by decide +kernel
theorem dL_refusesAny_52 : decode cL_refusesAny 52 = .ok (.ifCond .ne 7, 3) := by decide +kernel
theorem dL_refusesAny_55 : decode cL_refusesAny 55 = .ok (.iconst 0, 1) := by decide +kernel
theorem dL_refusesAny_56 : decode cL_refusesAny 56 = .ok (.goto 5, 3) := by decide +kernel
theorem dL_refusesAny_59 : decode cL_refusesAny 59 = .ok (.bipush 100, 2) := by decide +kernel
theorem dL_refusesAny_61 : decode cL_refusesAny 61 = .ok (.invokestatic 87, 3) := by decide +kernel
theorem dL_refusesAny_64 : decode cL_refusesAny 64 = .ok (.bipush (-11), 2) := by decide +kernel
theorem dL_refusesAny_66 : decode cL_refusesAny 66 = .ok (.if_icmp .ne 172, 3) := by decide +kernel
theorem dL_refusesAny_69 : decode cL_refusesAny 69 = .ok (.aload_n 0, 1) := by decide +kernel
theorem dL_refusesAny_70 : decode cL_refusesAny 70 = .ok (.iconst 0, 1) := by decide +kernel
theorem dL_refusesAny_71 : decode cL_refusesAny 71 = .ok (.iconst 2, 1) := by decide +kernel
theorem dL_refusesAny_72 : decode cL_refusesAny 72 = .ok (.iload_n 1, 1) := by decide +kernel
theorem dL_refusesAny_73 : decode cL_refusesAny 73 = .ok (.ifCond .ne 7, 3) := by decide +kernel
theorem dL_refusesAny_76 : decode cL_refusesAny 76 = .ok (.iconst 0, 1) := by decide +kernel
theorem dL_refusesAny_77 : decode cL_refusesAny 77 = .ok (.goto 5, 3) := by decide +kernel
theorem dL_refusesAny_80 : decode cL_refusesAny 80 = .ok (.bipush (-2), 2) := by decide +kernel
theorem dL_refusesAny_82 : decode cL_refusesAny 82 = .ok (.iconst 5, 1) := by decide +kernel
theorem dL_refusesAny_83 : decode cL_refusesAny 83 = .ok (.invokestatic 87, 3) := by decide +kernel
theorem dL_refusesAny_86 : decode cL_refusesAny 86 = .ok (.bipush (-11), 2) := by decide +kernel
theorem dL_refusesAny_88 : decode cL_refusesAny 88 = .ok (.if_icmp .ne 150, 3) := by decide +kernel
theorem dL_refusesAny_91 : decode cL_refusesAny 91 = .ok (.aload_n 0, 1) := by decide +kernel
theorem dL_refusesAny_92 : decode cL_refusesAny 92 = .ok (.iconst 0, 1) := by decide +kernel
theorem dL_refusesAny_93 : decode cL_refusesAny 93 = .ok (.iconst 2, 1) := by decide +kernel
theorem dL_refusesAny_94 : decode cL_refusesAny 94 = .ok (.iload_n 1, 1) := by decide +kernel
theorem dL_refusesAny_95 : decode cL_refusesAny 95 = .ok (.ifCond .ne 8, 3) := by decide +kernel
theorem dL_refusesAny_98 : decode cL_refusesAny 98 = .ok (.bipush 33, 2) := by decide +kernel
theorem dL_refusesAny_100 : decode cL_refusesAny 100 = .ok (.goto 5, 3) := by decide +kernel
theorem dL_refusesAny_103 : decode cL_refusesAny 103 = .ok (.bipush 6, 2) := by decide +kernel
theorem dL_refusesAny_105 : decode cL_refusesAny 105 = .ok (.iconst 5, 1) := by decide +kernel
theorem dL_refusesAny_106 : decode cL_refusesAny 106 = .ok (.invokestatic 87, 3) := by decide +kernel
theorem dL_refusesAny_109 : decode cL_refusesAny 109 = .ok (.bipush (-11), 2) := by decide +kernel
theorem dL_refusesAny_111 : decode cL_refusesAny 111 = .ok (.if_icmp .ne 127, 3) := by decide +kernel
theorem dL_refusesAny_114 : decode cL_refusesAny 114 = .ok (.aload_n 0, 1) := by decide +kernel
theorem dL_refusesAny_115 : decode cL_refusesAny 115 = .ok (.iconst 1, 1) := by decide +kernel
theorem dL_refusesAny_116 : decode cL_refusesAny 116 = .ok (.iload_n 2, 1) := by decide +kernel
theorem dL_refusesAny_117 : decode cL_refusesAny 117 = .ok (.iconst 0, 1) := by decide +kernel
theorem dL_refusesAny_118 : decode cL_refusesAny 118 = .ok (.bipush 9, 2) := by decide +kernel
theorem dL_refusesAny_120 : decode cL_refusesAny 120 = .ok (.invokestatic 87, 3) := by decide +kernel
theorem dL_refusesAny_123 : decode cL_refusesAny 123 = .ok (.bipush (-13), 2) := by decide +kernel
theorem dL_refusesAny_125 : decode cL_refusesAny 125 = .ok (.if_icmp .ne 113, 3) := by decide +kernel
theorem dL_refusesAny_128 : decode cL_refusesAny 128 = .ok (.aload_n 0, 1) := by decide +kernel
theorem dL_refusesAny_129 : decode cL_refusesAny 129 = .ok (.iconst 1, 1) := by decide +kernel
theorem dL_refusesAny_130 : decode cL_refusesAny 130 = .ok (.iconst 0, 1) := by decide +kernel
theorem dL_refusesAny_131 : decode cL_refusesAny 131 = .ok (.iload_n 1, 1) := by decide +kernel
theorem dL_refusesAny_132 : decode cL_refusesAny 132 = .ok (.ifCond .ne 7, 3) := by decide +kernel
theorem dL_refusesAny_135 : decode cL_refusesAny 135 = .ok (.iconst 0, 1) := by decide +kernel
theorem dL_refusesAny_136 : decode cL_refusesAny 136 = .ok (.goto 5, 3) := by decide +kernel
theorem dL_refusesAny_139 : decode cL_refusesAny 139 = .ok (.bipush 64, 2) := by decide +kernel
theorem dL_refusesAny_141 : decode cL_refusesAny 141 = .ok (.iconst (-1), 1) := by decide +kernel
theorem dL_refusesAny_142 : decode cL_refusesAny 142 = .ok (.invokestatic 87, 3) := by decide +kernel
theorem dL_refusesAny_145 : decode cL_refusesAny 145 = .ok (.bipush (-11), 2) := by decide +kernel
theorem dL_refusesAny_147 : decode cL_refusesAny 147 = .ok (.if_icmp .ne 91, 3) := by decide +kernel
theorem dL_refusesAny_150 : decode cL_refusesAny 150 = .ok (.aload_n 0, 1) := by decide +kernel
theorem dL_refusesAny_151 : decode cL_refusesAny 151 = .ok (.iconst 1, 1) := by decide +kernel
theorem dL_refusesAny_152 : decode cL_refusesAny 152 = .ok (.iconst 0, 1) := by decide +kernel
theorem dL_refusesAny_153 : decode cL_refusesAny 153 = .ok (.iconst 4, 1) := by decide +kernel
theorem dL_refusesAny_154 : decode cL_refusesAny 154 = .ok (.iload_n 1, 1) := by decide +kernel
theorem dL_refusesAny_155 : decode cL_refusesAny 155 = .ok (.ifCond .ne 7, 3) := by decide +kernel
theorem dL_refusesAny_158 : decode cL_refusesAny 158 = .ok (.iconst 3, 1) := by decide +kernel
theorem dL_refusesAny_159 : decode cL_refusesAny 159 = .ok (.goto 5, 3) := by decide +kernel
theorem dL_refusesAny_162 : decode cL_refusesAny 162 = .ok (.bipush 34, 2) := by decide +kernel
theorem dL_refusesAny_164 : decode cL_refusesAny 164 = .ok (.invokestatic 87, 3) := by decide +kernel
theorem dL_refusesAny_167 : decode cL_refusesAny 167 = .ok (.bipush (-11), 2) := by decide +kernel
theorem dL_refusesAny_169 : decode cL_refusesAny 169 = .ok (.if_icmp .ne 69, 3) := by decide +kernel
theorem dL_refusesAny_172 : decode cL_refusesAny 172 = .ok (.aload_n 0, 1) := by decide +kernel
theorem dL_refusesAny_173 : decode cL_refusesAny 173 = .ok (.iconst 3, 1) := by decide +kernel
theorem dL_refusesAny_174 : decode cL_refusesAny 174 = .ok (.iload_n 1, 1) := by decide +kernel
theorem dL_refusesAny_175 : decode cL_refusesAny 175 = .ok (.ifCond .ne 7, 3) := by decide +kernel
theorem dL_refusesAny_178 : decode cL_refusesAny 178 = .ok (.iconst (-1), 1) := by decide +kernel
theorem dL_refusesAny_179 : decode cL_refusesAny 179 = .ok (.goto 4, 3) := by decide +kernel
theorem dL_refusesAny_182 : decode cL_refusesAny 182 = .ok (.iconst 2, 1) := by decide +kernel
theorem dL_refusesAny_183 : decode cL_refusesAny 183 = .ok (.bipush 99, 2) := by decide +kernel
theorem dL_refusesAny_185 : decode cL_refusesAny 185 = .ok (.iconst 0, 1) := by decide +kernel
theorem dL_refusesAny_186 : decode cL_refusesAny 186 = .ok (.invokestatic 87, 3) := by decide +kernel
theorem dL_refusesAny_189 : decode cL_refusesAny 189 = .ok (.bipush (-13), 2) := by decide +kernel
theorem dL_refusesAny_191 : decode cL_refusesAny 191 = .ok (.if_icmp .ne 47, 3) := by decide +kernel
theorem dL_refusesAny_194 : decode cL_refusesAny 194 = .ok (.aload_n 0, 1) := by decide +kernel
theorem dL_refusesAny_195 : decode cL_refusesAny 195 = .ok (.iconst 3, 1) := by decide +kernel
theorem dL_refusesAny_196 : decode cL_refusesAny 196 = .ok (.iconst 0, 1) := by decide +kernel
theorem dL_refusesAny_197 : decode cL_refusesAny 197 = .ok (.iload_n 1, 1) := by decide +kernel
theorem dL_refusesAny_198 : decode cL_refusesAny 198 = .ok (.ifCond .ne 7, 3) := by decide +kernel
theorem dL_refusesAny_201 : decode cL_refusesAny 201 = .ok (.iconst (-1), 1) := by decide +kernel
theorem dL_refusesAny_202 : decode cL_refusesAny 202 = .ok (.goto 5, 3) := by decide +kernel
theorem dL_refusesAny_205 : decode cL_refusesAny 205 = .ok (.bipush 20, 2) := by decide +kernel
theorem dL_refusesAny_207 : decode cL_refusesAny 207 = .ok (.iconst 0, 1) := by decide +kernel
theorem dL_refusesAny_208 : decode cL_refusesAny 208 = .ok (.invokestatic 87, 3) := by decide +kernel
theorem dL_refusesAny_211 : decode cL_refusesAny 211 = .ok (.bipush (-11), 2) := by decide +kernel
theorem dL_refusesAny_213 : decode cL_refusesAny 213 = .ok (.if_icmp .ne 25, 3) := by decide +kernel
theorem dL_refusesAny_216 : decode cL_refusesAny 216 = .ok (.aload_n 0, 1) := by decide +kernel
theorem dL_refusesAny_217 : decode cL_refusesAny 217 = .ok (.iconst 3, 1) := by decide +kernel
theorem dL_refusesAny_218 : decode cL_refusesAny 218 = .ok (.iconst 1, 1) := by decide +kernel
theorem dL_refusesAny_219 : decode cL_refusesAny 219 = .ok (.iload_n 1, 1) := by decide +kernel
theorem dL_refusesAny_220 : decode cL_refusesAny 220 = .ok (.ifCond .ne 7, 3) := by decide +kernel
theorem dL_refusesAny_223 : decode cL_refusesAny 223 = .ok (.iconst 0, 1) := by decide +kernel
theorem dL_refusesAny_224 : decode cL_refusesAny 224 = .ok (.goto 5, 3) := by decide +kernel
theorem dL_refusesAny_227 : decode cL_refusesAny 227 = .ok (.bipush 21, 2) := by decide +kernel
theorem dL_refusesAny_229 : decode cL_refusesAny 229 = .ok (.iconst 0, 1) := by decide +kernel
theorem dL_refusesAny_230 : decode cL_refusesAny 230 = .ok (.invokestatic 87, 3) := by decide +kernel
theorem dL_refusesAny_233 : decode cL_refusesAny 233 = .ok (.bipush (-11), 2) := by decide +kernel
theorem dL_refusesAny_235 : decode cL_refusesAny 235 = .ok (.if_icmp .eq 5, 3) := by decide +kernel
theorem dL_refusesAny_238 : decode cL_refusesAny 238 = .ok (.iconst 0, 1) := by decide +kernel
theorem dL_refusesAny_239 : decode cL_refusesAny 239 = .ok (.ireturn, 1) := by decide +kernel
theorem dL_refusesAny_240 : decode cL_refusesAny 240 = .ok (.aload_n 0, 1) := by decide +kernel
theorem dL_refusesAny_241 : decode cL_refusesAny 241 = .ok (.iconst 4, 1) := by decide +kernel
theorem dL_refusesAny_242 : decode cL_refusesAny 242 = .ok (.iload_n 3, 1) := by decide +kernel
theorem dL_refusesAny_243 : decode cL_refusesAny 243 = .ok (.iconst 0, 1) := by decide +kernel
theorem dL_refusesAny_244 : decode cL_refusesAny 244 = .ok (.iconst 0, 1) := by decide +kernel
theorem dL_refusesAny_245 : decode cL_refusesAny 245 = .ok (.invokestatic 87, 3) := by decide +kernel
theorem dL_refusesAny_248 : decode cL_refusesAny 248 = .ok (.bipush (-13), 2) := by decide +kernel
theorem dL_refusesAny_250 : decode cL_refusesAny 250 = .ok (.if_icmp .ne 208, 3) := by decide +kernel
theorem dL_refusesAny_253 : decode cL_refusesAny 253 = .ok (.aload_n 0, 1) := by decide +kernel
theorem dL_refusesAny_254 : decode cL_refusesAny 254 = .ok (.iconst 4, 1) := by decide +kernel
theorem dL_refusesAny_255 : decode cL_refusesAny 255 = .ok (.iconst 0, 1) := by decide +kernel
theorem dL_refusesAny_256 : decode cL_refusesAny 256 = .ok (.iload_n 2, 1) := by decide +kernel
theorem dL_refusesAny_257 : decode cL_refusesAny 257 = .ok (.iconst 0, 1) := by decide +kernel
theorem dL_refusesAny_258 : decode cL_refusesAny 258 = .ok (.invokestatic 87, 3) := by decide +kernel
theorem dL_refusesAny_261 : decode cL_refusesAny 261 = .ok (.bipush (-13), 2) := by decide +kernel
theorem dL_refusesAny_263 : decode cL_refusesAny 263 = .ok (.if_icmp .ne 195, 3) := by decide +kernel
theorem dL_refusesAny_266 : decode cL_refusesAny 266 = .ok (.aload_n 0, 1) := by decide +kernel
theorem dL_refusesAny_267 : decode cL_refusesAny 267 = .ok (.iconst 5, 1) := by decide +kernel
theorem dL_refusesAny_268 : decode cL_refusesAny 268 = .ok (.iload_n 2, 1) := by decide +kernel
theorem dL_refusesAny_269 : decode cL_refusesAny 269 = .ok (.bipush 99, 2) := by decide +kernel
theorem dL_refusesAny_271 : decode cL_refusesAny 271 = .ok (.iconst 0, 1) := by decide +kernel
theorem dL_refusesAny_272 : decode cL_refusesAny 272 = .ok (.invokestatic 87, 3) := by decide +kernel
theorem dL_refusesAny_275 : decode cL_refusesAny 275 = .ok (.bipush (-13), 2) := by decide +kernel
theorem dL_refusesAny_277 : decode cL_refusesAny 277 = .ok (.if_icmp .ne 181, 3) := by decide +kernel
theorem dL_refusesAny_280 : decode cL_refusesAny 280 = .ok (.aload_n 0, 1) := by decide +kernel
theorem dL_refusesAny_281 : decode cL_refusesAny 281 = .ok (.iconst 5, 1) := by decide +kernel
theorem dL_refusesAny_282 : decode cL_refusesAny 282 = .ok (.iconst 0, 1) := by decide +kernel
theorem dL_refusesAny_283 : decode cL_refusesAny 283 = .ok (.iload_n 1, 1) := by decide +kernel
theorem dL_refusesAny_284 : decode cL_refusesAny 284 = .ok (.ifCond .ne 7, 3) := by decide +kernel
theorem dL_refusesAny_287 : decode cL_refusesAny 287 = .ok (.iconst (-1), 1) := by decide +kernel
theorem dL_refusesAny_288 : decode cL_refusesAny 288 = .ok (.goto 5, 3) := by decide +kernel
theorem dL_refusesAny_291 : decode cL_refusesAny 291 = .ok (.bipush 64, 2) := by decide +kernel
theorem dL_refusesAny_293 : decode cL_refusesAny 293 = .ok (.iconst 0, 1) := by decide +kernel
theorem dL_refusesAny_294 : decode cL_refusesAny 294 = .ok (.invokestatic 87, 3) := by decide +kernel
theorem dL_refusesAny_297 : decode cL_refusesAny 297 = .ok (.bipush (-11), 2) := by decide +kernel
theorem dL_refusesAny_299 : decode cL_refusesAny 299 = .ok (.if_icmp .ne 159, 3) := by decide +kernel
theorem dL_refusesAny_302 : decode cL_refusesAny 302 = .ok (.aload_n 0, 1) := by decide +kernel
theorem dL_refusesAny_303 : decode cL_refusesAny 303 = .ok (.bipush 6, 2) := by decide +kernel
theorem dL_refusesAny_305 : decode cL_refusesAny 305 = .ok (.iload_n 3, 1) := by decide +kernel
theorem dL_refusesAny_306 : decode cL_refusesAny 306 = .ok (.iconst 0, 1) := by decide +kernel
theorem dL_refusesAny_307 : decode cL_refusesAny 307 = .ok (.iconst 0, 1) := by decide +kernel
theorem dL_refusesAny_308 : decode cL_refusesAny 308 = .ok (.invokestatic 87, 3) := by decide +kernel
theorem dL_refusesAny_311 : decode cL_refusesAny 311 = .ok (.bipush (-13), 2) := by decide +kernel
theorem dL_refusesAny_313 : decode cL_refusesAny 313 = .ok (.if_icmp .ne 145, 3) := by decide +kernel
theorem dL_refusesAny_316 : decode cL_refusesAny 316 = .ok (.aload_n 0, 1) := by decide +kernel
theorem dL_refusesAny_317 : decode cL_refusesAny 317 = .ok (.bipush 7, 2) := by decide +kernel
theorem dL_refusesAny_319 : decode cL_refusesAny 319 = .ok (.iload_n 3, 1) := by decide +kernel
theorem dL_refusesAny_320 : decode cL_refusesAny 320 = .ok (.iconst 0, 1) := by decide +kernel
theorem dL_refusesAny_321 : decode cL_refusesAny 321 = .ok (.iconst 0, 1) := by decide +kernel
theorem dL_refusesAny_322 : decode cL_refusesAny 322 = .ok (.invokestatic 87, 3) := by decide +kernel
theorem dL_refusesAny_325 : decode cL_refusesAny 325 = .ok (.bipush (-13), 2) := by decide +kernel
theorem dL_refusesAny_327 : decode cL_refusesAny 327 = .ok (.if_icmp .ne 131, 3) := by decide +kernel
theorem dL_refusesAny_330 : decode cL_refusesAny 330 = .ok (.aload_n 0, 1) := by decide +kernel
theorem dL_refusesAny_331 : decode cL_refusesAny 331 = .ok (.bipush 8, 2) := by decide +kernel
theorem dL_refusesAny_333 : decode cL_refusesAny 333 = .ok (.iload_n 1, 1) := by decide +kernel
theorem dL_refusesAny_334 : decode cL_refusesAny 334 = .ok (.ifCond .ne 8, 3) := by decide +kernel
theorem dL_refusesAny_337 : decode cL_refusesAny 337 = .ok (.bipush 32, 2) := by decide +kernel
theorem dL_refusesAny_339 : decode cL_refusesAny 339 = .ok (.goto 5, 3) := by decide +kernel
theorem dL_refusesAny_342 : decode cL_refusesAny 342 = .ok (.bipush 127, 2) := by decide +kernel
theorem dL_refusesAny_344 : decode cL_refusesAny 344 = .ok (.iconst 0, 1) := by decide +kernel
theorem dL_refusesAny_345 : decode cL_refusesAny 345 = .ok (.iconst 0, 1) := by decide +kernel
theorem dL_refusesAny_346 : decode cL_refusesAny 346 = .ok (.invokestatic 87, 3) := by decide +kernel
theorem dL_refusesAny_349 : decode cL_refusesAny 349 = .ok (.bipush (-11), 2) := by decide +kernel
theorem dL_refusesAny_351 : decode cL_refusesAny 351 = .ok (.if_icmp .ne 107, 3) := by decide +kernel
theorem dL_refusesAny_354 : decode cL_refusesAny 354 = .ok (.aload_n 0, 1) := by decide +kernel
theorem dL_refusesAny_355 : decode cL_refusesAny 355 = .ok (.bipush 11, 2) := by decide +kernel
theorem dL_refusesAny_357 : decode cL_refusesAny 357 = .ok (.iload_n 2, 1) := by decide +kernel
theorem dL_refusesAny_358 : decode cL_refusesAny 358 = .ok (.bipush 9, 2) := by decide +kernel
theorem dL_refusesAny_360 : decode cL_refusesAny 360 = .ok (.iconst 0, 1) := by decide +kernel
theorem dL_refusesAny_361 : decode cL_refusesAny 361 = .ok (.invokestatic 87, 3) := by decide +kernel
theorem dL_refusesAny_364 : decode cL_refusesAny 364 = .ok (.bipush (-13), 2) := by decide +kernel
theorem dL_refusesAny_366 : decode cL_refusesAny 366 = .ok (.if_icmp .ne 92, 3) := by decide +kernel
theorem dL_refusesAny_369 : decode cL_refusesAny 369 = .ok (.aload_n 0, 1) := by decide +kernel
theorem dL_refusesAny_370 : decode cL_refusesAny 370 = .ok (.bipush 11, 2) := by decide +kernel
theorem dL_refusesAny_372 : decode cL_refusesAny 372 = .ok (.iconst 0, 1) := by decide +kernel
theorem dL_refusesAny_373 : decode cL_refusesAny 373 = .ok (.iload_n 1, 1) := by decide +kernel
theorem dL_refusesAny_374 : decode cL_refusesAny 374 = .ok (.ifCond .ne 7, 3) := by decide +kernel
theorem dL_refusesAny_377 : decode cL_refusesAny 377 = .ok (.iconst (-1), 1) := by decide +kernel
theorem dL_refusesAny_378 : decode cL_refusesAny 378 = .ok (.goto 5, 3) := by decide +kernel
theorem dL_refusesAny_381 : decode cL_refusesAny 381 = .ok (.bipush 7, 2) := by decide +kernel
theorem dL_refusesAny_383 : decode cL_refusesAny 383 = .ok (.iconst 0, 1) := by decide +kernel
theorem dL_refusesAny_384 : decode cL_refusesAny 384 = .ok (.invokestatic 87, 3) := by decide +kernel
theorem dL_refusesAny_387 : decode cL_refusesAny 387 = .ok (.bipush (-11), 2) := by decide +kernel
theorem dL_refusesAny_389 : decode cL_refusesAny 389 = .ok (.if_icmp .ne 69, 3) := by decide +kernel
theorem dL_refusesAny_392 : decode cL_refusesAny 392 = .ok (.aload_n 0, 1) := by decide +kernel
theorem dL_refusesAny_393 : decode cL_refusesAny 393 = .ok (.bipush 12, 2) := by decide +kernel
theorem dL_refusesAny_395 : decode cL_refusesAny 395 = .ok (.iload_n 3, 1) := by decide +kernel
theorem dL_refusesAny_396 : decode cL_refusesAny 396 = .ok (.iconst 0, 1) := by decide +kernel
theorem dL_refusesAny_397 : decode cL_refusesAny 397 = .ok (.iconst 0, 1) := by decide +kernel
theorem dL_refusesAny_398 : decode cL_refusesAny 398 = .ok (.invokestatic 87, 3) := by decide +kernel
theorem dL_refusesAny_401 : decode cL_refusesAny 401 = .ok (.bipush (-13), 2) := by decide +kernel
theorem dL_refusesAny_403 : decode cL_refusesAny 403 = .ok (.if_icmp .ne 55, 3) := by decide +kernel
theorem dL_refusesAny_406 : decode cL_refusesAny 406 = .ok (.aload_n 0, 1) := by decide +kernel
theorem dL_refusesAny_407 : decode cL_refusesAny 407 = .ok (.bipush 12, 2) := by decide +kernel
theorem dL_refusesAny_409 : decode cL_refusesAny 409 = .ok (.iconst 0, 1) := by decide +kernel
theorem dL_refusesAny_410 : decode cL_refusesAny 410 = .ok (.iload_n 2, 1) := by decide +kernel
theorem dL_refusesAny_411 : decode cL_refusesAny 411 = .ok (.iconst 0, 1) := by decide +kernel
theorem dL_refusesAny_412 : decode cL_refusesAny 412 = .ok (.invokestatic 87, 3) := by decide +kernel
theorem dL_refusesAny_415 : decode cL_refusesAny 415 = .ok (.bipush (-13), 2) := by decide +kernel
theorem dL_refusesAny_417 : decode cL_refusesAny 417 = .ok (.if_icmp .ne 41, 3) := by decide +kernel
theorem dL_refusesAny_420 : decode cL_refusesAny 420 = .ok (.aload_n 0, 1) := by decide +kernel
theorem dL_refusesAny_421 : decode cL_refusesAny 421 = .ok (.bipush 13, 2) := by decide +kernel
theorem dL_refusesAny_423 : decode cL_refusesAny 423 = .ok (.iload_n 3, 1) := by decide +kernel
theorem dL_refusesAny_424 : decode cL_refusesAny 424 = .ok (.bipush 9, 2) := by decide +kernel
theorem dL_refusesAny_426 : decode cL_refusesAny 426 = .ok (.iconst 0, 1) := by decide +kernel
theorem dL_refusesAny_427 : decode cL_refusesAny 427 = .ok (.invokestatic 87, 3) := by decide +kernel
theorem dL_refusesAny_430 : decode cL_refusesAny 430 = .ok (.bipush (-13), 2) := by decide +kernel
theorem dL_refusesAny_432 : decode cL_refusesAny 432 = .ok (.if_icmp .ne 26, 3) := by decide +kernel
theorem dL_refusesAny_435 : decode cL_refusesAny 435 = .ok (.aload_n 0, 1) := by decide +kernel
theorem dL_refusesAny_436 : decode cL_refusesAny 436 = .ok (.bipush 13, 2) := by decide +kernel
theorem dL_refusesAny_438 : decode cL_refusesAny 438 = .ok (.iconst 0, 1) := by decide +kernel
theorem dL_refusesAny_439 : decode cL_refusesAny 439 = .ok (.iload_n 1, 1) := by decide +kernel
theorem dL_refusesAny_440 : decode cL_refusesAny 440 = .ok (.ifCond .ne 7, 3) := by decide +kernel
theorem dL_refusesAny_443 : decode cL_refusesAny 443 = .ok (.iconst (-1), 1) := by decide +kernel
theorem dL_refusesAny_444 : decode cL_refusesAny 444 = .ok (.goto 5, 3) := by decide +kernel
theorem dL_refusesAny_447 : decode cL_refusesAny 447 = .ok (.bipush 7, 2) := by decide +kernel
theorem dL_refusesAny_449 : decode cL_refusesAny 449 = .ok (.iconst 0, 1) := by decide +kernel
theorem dL_refusesAny_450 : decode cL_refusesAny 450 = .ok (.invokestatic 87, 3) := by decide +kernel
theorem dL_refusesAny_453 : decode cL_refusesAny 453 = .ok (.bipush (-11), 2) := by decide +kernel
theorem dL_refusesAny_455 : decode cL_refusesAny 455 = .ok (.if_icmp .eq 5, 3) := by decide +kernel
theorem dL_refusesAny_458 : decode cL_refusesAny 458 = .ok (.iconst 0, 1) := by decide +kernel
theorem dL_refusesAny_459 : decode cL_refusesAny 459 = .ok (.ireturn, 1) := by decide +kernel
theorem dL_refusesAny_460 : decode cL_refusesAny 460 = .ok (.aload_n 0, 1) := by decide +kernel
theorem dL_refusesAny_461 : decode cL_refusesAny 461 = .ok (.bipush 14, 2) := by decide +kernel
theorem dL_refusesAny_463 : decode cL_refusesAny 463 = .ok (.iload_n 3, 1) := by decide +kernel
theorem dL_refusesAny_464 : decode cL_refusesAny 464 = .ok (.bipush 9, 2) := by decide +kernel
theorem dL_refusesAny_466 : decode cL_refusesAny 466 = .ok (.iconst 0, 1) := by decide +kernel
theorem dL_refusesAny_467 : decode cL_refusesAny 467 = .ok (.invokestatic 87, 3) := by decide +kernel
theorem dL_refusesAny_470 : decode cL_refusesAny 470 = .ok (.bipush (-13), 2) := by decide +kernel
theorem dL_refusesAny_472 : decode cL_refusesAny 472 = .ok (.if_icmp .ne 154, 3) := by decide +kernel
theorem dL_refusesAny_475 : decode cL_refusesAny 475 = .ok (.aload_n 0, 1) := by decide +kernel
theorem dL_refusesAny_476 : decode cL_refusesAny 476 = .ok (.bipush 14, 2) := by decide +kernel
theorem dL_refusesAny_478 : decode cL_refusesAny 478 = .ok (.iconst 5, 1) := by decide +kernel
theorem dL_refusesAny_479 : decode cL_refusesAny 479 = .ok (.iload_n 1, 1) := by decide +kernel
theorem dL_refusesAny_480 : decode cL_refusesAny 480 = .ok (.ifCond .ne 7, 3) := by decide +kernel
theorem dL_refusesAny_483 : decode cL_refusesAny 483 = .ok (.iconst (-1), 1) := by decide +kernel
theorem dL_refusesAny_484 : decode cL_refusesAny 484 = .ok (.goto 4, 3) := by decide +kernel
theorem dL_refusesAny_487 : decode cL_refusesAny 487 = .ok (.iconst 4, 1) := by decide +kernel
theorem dL_refusesAny_488 : decode cL_refusesAny 488 = .ok (.iconst 0, 1) := by decide +kernel
theorem dL_refusesAny_489 : decode cL_refusesAny 489 = .ok (.invokestatic 87, 3) := by decide +kernel
theorem dL_refusesAny_492 : decode cL_refusesAny 492 = .ok (.bipush (-11), 2) := by decide +kernel
theorem dL_refusesAny_494 : decode cL_refusesAny 494 = .ok (.if_icmp .ne 132, 3) := by decide +kernel
theorem dL_refusesAny_497 : decode cL_refusesAny 497 = .ok (.aload_n 0, 1) := by decide +kernel
theorem dL_refusesAny_498 : decode cL_refusesAny 498 = .ok (.bipush 15, 2) := by decide +kernel
theorem dL_refusesAny_500 : decode cL_refusesAny 500 = .ok (.iload_n 1, 1) := by decide +kernel
theorem dL_refusesAny_501 : decode cL_refusesAny 501 = .ok (.ifCond .ne 7, 3) := by decide +kernel
theorem dL_refusesAny_504 : decode cL_refusesAny 504 = .ok (.iconst (-1), 1) := by decide +kernel
theorem dL_refusesAny_505 : decode cL_refusesAny 505 = .ok (.goto 5, 3) := by decide +kernel
theorem dL_refusesAny_508 : decode cL_refusesAny 508 = .ok (.bipush 7, 2) := by decide +kernel
theorem dL_refusesAny_510 : decode cL_refusesAny 510 = .ok (.iconst 0, 1) := by decide +kernel
theorem dL_refusesAny_511 : decode cL_refusesAny 511 = .ok (.iconst 0, 1) := by decide +kernel
theorem dL_refusesAny_512 : decode cL_refusesAny 512 = .ok (.invokestatic 87, 3) := by decide +kernel
theorem dL_refusesAny_515 : decode cL_refusesAny 515 = .ok (.bipush (-11), 2) := by decide +kernel
theorem dL_refusesAny_517 : decode cL_refusesAny 517 = .ok (.if_icmp .ne 109, 3) := by decide +kernel
theorem dL_refusesAny_520 : decode cL_refusesAny 520 = .ok (.aload_n 0, 1) := by decide +kernel
theorem dL_refusesAny_521 : decode cL_refusesAny 521 = .ok (.bipush 16, 2) := by decide +kernel
theorem dL_refusesAny_523 : decode cL_refusesAny 523 = .ok (.iload_n 1, 1) := by decide +kernel
theorem dL_refusesAny_524 : decode cL_refusesAny 524 = .ok (.ifCond .ne 7, 3) := by decide +kernel
theorem dL_refusesAny_527 : decode cL_refusesAny 527 = .ok (.iconst (-1), 1) := by decide +kernel
theorem dL_refusesAny_528 : decode cL_refusesAny 528 = .ok (.goto 4, 3) := by decide +kernel
theorem dL_refusesAny_531 : decode cL_refusesAny 531 = .ok (.iconst 2, 1) := by decide +kernel
theorem dL_refusesAny_532 : decode cL_refusesAny 532 = .ok (.iconst 0, 1) := by decide +kernel
theorem dL_refusesAny_533 : decode cL_refusesAny 533 = .ok (.iconst 0, 1) := by decide +kernel
theorem dL_refusesAny_534 : decode cL_refusesAny 534 = .ok (.invokestatic 87, 3) := by decide +kernel
theorem dL_refusesAny_537 : decode cL_refusesAny 537 = .ok (.bipush (-13), 2) := by decide +kernel
theorem dL_refusesAny_539 : decode cL_refusesAny 539 = .ok (.if_icmp .ne 87, 3) := by decide +kernel
theorem dL_refusesAny_542 : decode cL_refusesAny 542 = .ok (.aload_n 0, 1) := by decide +kernel
theorem dL_refusesAny_543 : decode cL_refusesAny 543 = .ok (.bipush 17, 2) := by decide +kernel
theorem dL_refusesAny_545 : decode cL_refusesAny 545 = .ok (.iload_n 3, 1) := by decide +kernel
theorem dL_refusesAny_546 : decode cL_refusesAny 546 = .ok (.iconst 0, 1) := by decide +kernel
theorem dL_refusesAny_547 : decode cL_refusesAny 547 = .ok (.bipush 9, 2) := by decide +kernel
theorem dL_refusesAny_549 : decode cL_refusesAny 549 = .ok (.invokestatic 87, 3) := by decide +kernel
theorem dL_refusesAny_552 : decode cL_refusesAny 552 = .ok (.bipush (-13), 2) := by decide +kernel
theorem dL_refusesAny_554 : decode cL_refusesAny 554 = .ok (.if_icmp .ne 72, 3) := by decide +kernel
theorem dL_refusesAny_557 : decode cL_refusesAny 557 = .ok (.aload_n 0, 1) := by decide +kernel
theorem dL_refusesAny_558 : decode cL_refusesAny 558 = .ok (.bipush 17, 2) := by decide +kernel
theorem dL_refusesAny_560 : decode cL_refusesAny 560 = .ok (.iconst 0, 1) := by decide +kernel
theorem dL_refusesAny_561 : decode cL_refusesAny 561 = .ok (.iload_n 2, 1) := by decide +kernel
theorem dL_refusesAny_562 : decode cL_refusesAny 562 = .ok (.bipush 9, 2) := by decide +kernel
theorem dL_refusesAny_564 : decode cL_refusesAny 564 = .ok (.invokestatic 87, 3) := by decide +kernel
theorem dL_refusesAny_567 : decode cL_refusesAny 567 = .ok (.bipush (-13), 2) := by decide +kernel
theorem dL_refusesAny_569 : decode cL_refusesAny 569 = .ok (.if_icmp .ne 57, 3) := by decide +kernel
theorem dL_refusesAny_572 : decode cL_refusesAny 572 = .ok (.aload_n 0, 1) := by decide +kernel
theorem dL_refusesAny_573 : decode cL_refusesAny 573 = .ok (.bipush 17, 2) := by decide +kernel
theorem dL_refusesAny_575 : decode cL_refusesAny 575 = .ok (.iconst 0, 1) := by decide +kernel
theorem dL_refusesAny_576 : decode cL_refusesAny 576 = .ok (.iconst 0, 1) := by decide +kernel
theorem dL_refusesAny_577 : decode cL_refusesAny 577 = .ok (.iload_n 1, 1) := by decide +kernel
theorem dL_refusesAny_578 : decode cL_refusesAny 578 = .ok (.ifCond .ne 7, 3) := by decide +kernel
theorem dL_refusesAny_581 : decode cL_refusesAny 581 = .ok (.iconst (-1), 1) := by decide +kernel
theorem dL_refusesAny_582 : decode cL_refusesAny 582 = .ok (.goto 4, 3) := by decide +kernel
theorem dL_refusesAny_585 : decode cL_refusesAny 585 = .ok (.iconst 5, 1) := by decide +kernel
theorem dL_refusesAny_586 : decode cL_refusesAny 586 = .ok (.invokestatic 87, 3) := by decide +kernel
theorem dL_refusesAny_589 : decode cL_refusesAny 589 = .ok (.bipush (-11), 2) := by decide +kernel
theorem dL_refusesAny_591 : decode cL_refusesAny 591 = .ok (.if_icmp .ne 35, 3) := by decide +kernel
theorem dL_refusesAny_594 : decode cL_refusesAny 594 = .ok (.aload_n 0, 1) := by decide +kernel
theorem dL_refusesAny_595 : decode cL_refusesAny 595 = .ok (.bipush 18, 2) := by decide +kernel
theorem dL_refusesAny_597 : decode cL_refusesAny 597 = .ok (.iload_n 3, 1) := by decide +kernel
theorem dL_refusesAny_598 : decode cL_refusesAny 598 = .ok (.iconst 0, 1) := by decide +kernel
theorem dL_refusesAny_599 : decode cL_refusesAny 599 = .ok (.iconst 0, 1) := by decide +kernel
theorem dL_refusesAny_600 : decode cL_refusesAny 600 = .ok (.invokestatic 87, 3) := by decide +kernel
theorem dL_refusesAny_603 : decode cL_refusesAny 603 = .ok (.bipush (-13), 2) := by decide +kernel
theorem dL_refusesAny_605 : decode cL_refusesAny 605 = .ok (.if_icmp .ne 21, 3) := by decide +kernel
theorem dL_refusesAny_608 : decode cL_refusesAny 608 = .ok (.aload_n 0, 1) := by decide +kernel
theorem dL_refusesAny_609 : decode cL_refusesAny 609 = .ok (.bipush 19, 2) := by decide +kernel
theorem dL_refusesAny_611 : decode cL_refusesAny 611 = .ok (.iload_n 3, 1) := by decide +kernel
theorem dL_refusesAny_612 : decode cL_refusesAny 612 = .ok (.iconst 0, 1) := by decide +kernel
theorem dL_refusesAny_613 : decode cL_refusesAny 613 = .ok (.iconst 0, 1) := by decide +kernel
theorem dL_refusesAny_614 : decode cL_refusesAny 614 = .ok (.invokestatic 87, 3) := by decide +kernel
theorem dL_refusesAny_617 : decode cL_refusesAny 617 = .ok (.bipush (-13), 2) := by decide +kernel
theorem dL_refusesAny_619 : decode cL_refusesAny 619 = .ok (.if_icmp .ne 7, 3) := by decide +kernel
theorem dL_refusesAny_622 : decode cL_refusesAny 622 = .ok (.iconst 1, 1) := by decide +kernel
theorem dL_refusesAny_623 : decode cL_refusesAny 623 = .ok (.goto 4, 3) := by decide +kernel
theorem dL_refusesAny_626 : decode cL_refusesAny 626 = .ok (.iconst 0, 1) := by decide +kernel
theorem dL_refusesAny_627 : decode cL_refusesAny 627 = .ok (.ireturn, 1) := by decide +kernel
theorem dL_refused_0 : decode cL_refused 0 = .ok (.aload_n 0, 1) := by decide +kernel
theorem dL_refused_1 : decode cL_refused 1 = .ok (.invokevirtual 90, 3) := by decide +kernel
theorem dL_refused_4 : decode cL_refused 4 = .ok (.lstore_n 1, 1) := by decide +kernel
theorem dL_refused_5 : decode cL_refused 5 = .ok (.aload_n 0, 1) := by decide +kernel
theorem dL_refused_6 : decode cL_refused 6 = .ok (.iconst 0, 1) := by decide +kernel
theorem dL_refused_7 : decode cL_refused 7 = .ok (.invokestatic 94, 3) := by decide +kernel
theorem dL_refused_10 : decode cL_refused 10 = .ok (.ifCond .eq 24, 3) := by decide +kernel
theorem dL_refused_13 : decode cL_refused 13 = .ok (.aload_n 0, 1) := by decide +kernel
theorem dL_refused_14 : decode cL_refused 14 = .ok (.iconst 1, 1) := by decide +kernel
theorem dL_refused_15 : decode cL_refused 15 = .ok (.invokestatic 94, 3) := by decide +kernel
theorem dL_refused_18 : decode cL_refused 18 = .ok (.ifCond .eq 16, 3) := by decide +kernel
theorem dL_refused_21 : decode cL_refused 21 = .ok (.aload_n 0, 1) := by decide +kernel
theorem dL_refused_22 : decode cL_refused 22 = .ok (.invokevirtual 90, 3) := by decide +kernel
theorem dL_refused_25 : decode cL_refused 25 = .ok (.lload_n 1, 1) := by decide +kernel
theorem dL_refused_26 : decode cL_refused 26 = .ok (.lcmp, 1) := by decide +kernel
theorem dL_refused_27 : decode cL_refused 27 = .ok (.ifCond .ne 7, 3) := by decide +kernel
theorem dL_refused_30 : decode cL_refused 30 = .ok (.iconst 1, 1) := by decide +kernel
theorem dL_refused_31 : decode cL_refused 31 = .ok (.goto 4, 3) := by decide +kernel
theorem dL_refused_34 : decode cL_refused 34 = .ok (.iconst 0, 1) := by decide +kernel
theorem dL_refused_35 : decode cL_refused 35 = .ok (.ireturn, 1) := by decide +kernel
theorem dL_serial_0 : decode cL_serial 0 = .ok (.new 10, 3) := by decide +kernel
theorem dL_serial_3 : decode cL_serial 3 = .ok (.dup, 1) := by decide +kernel
theorem dL_serial_4 : decode cL_serial 4 = .ok (.invokespecial 98, 3) := by decide +kernel
theorem dL_serial_7 : decode cL_serial 7 = .ok (.astore_n 0, 1) := by decide +kernel
theorem dL_serial_8 : decode cL_serial 8 = .ok (.aload_n 0, 1) := by decide +kernel
theorem dL_serial_9 : decode cL_serial 9 = .ok (.bipush 10, 2) := by decide +kernel
theorem dL_serial_11 : decode cL_serial 11 = .ok (.iconst 0, 1) := by decide +kernel
theorem dL_serial_12 : decode cL_serial 12 = .ok (.iconst 0, 1) := by decide +kernel
theorem dL_serial_13 : decode cL_serial 13 = .ok (.iconst 0, 1) := by decide +kernel
theorem dL_serial_14 : decode cL_serial 14 = .ok (.invokestatic 87, 3) := by decide +kernel
theorem dL_serial_17 : decode cL_serial 17 = .ok (.bipush (-12), 2) := by decide +kernel
theorem dL_serial_19 : decode cL_serial 19 = .ok (.if_icmp .ne 215, 3) := by decide +kernel
theorem dL_serial_22 : decode cL_serial 22 = .ok (.aload_n 0, 1) := by decide +kernel
theorem dL_serial_23 : decode cL_serial 23 = .ok (.iconst 2, 1) := by decide +kernel
theorem dL_serial_24 : decode cL_serial 24 = .ok (.iconst 0, 1) := by decide +kernel
theorem dL_serial_25 : decode cL_serial 25 = .ok (.iconst 0, 1) := by decide +kernel
theorem dL_serial_26 : decode cL_serial 26 = .ok (.iconst 0, 1) := by decide +kernel
theorem dL_serial_27 : decode cL_serial 27 = .ok (.invokestatic 87, 3) := by decide +kernel
theorem dL_serial_30 : decode cL_serial 30 = .ok (.bipush (-12), 2) := by decide +kernel
theorem dL_serial_32 : decode cL_serial 32 = .ok (.if_icmp .ne 202, 3) := by decide +kernel
theorem dL_serial_35 : decode cL_serial 35 = .ok (.aload_n 0, 1) := by decide +kernel
theorem dL_serial_36 : decode cL_serial 36 = .ok (.invokevirtual 99, 3) := by decide +kernel
theorem dL_serial_39 : decode cL_serial 39 = .ok (.dconst 1, 1) := by decide +kernel
theorem dL_serial_40 : decode cL_serial 40 = .ok (.dcmp .l, 1) := by decide +kernel
theorem dL_serial_41 : decode cL_serial 41 = .ok (.ifCond .ne 193, 3) := by decide +kernel
theorem dL_serial_44 : decode cL_serial 44 = .ok (.aload_n 0, 1) := by decide +kernel
theorem dL_serial_45 : decode cL_serial 45 = .ok (.iconst 5, 1) := by decide +kernel
theorem dL_serial_46 : decode cL_serial 46 = .ok (.invokevirtual 60, 3) := by decide +kernel
theorem dL_serial_49 : decode cL_serial 49 = .ok (.bipush 6, 2) := by decide +kernel
theorem dL_serial_51 : decode cL_serial 51 = .ok (.if_icmp .ne 183, 3) := by decide +kernel
theorem dL_serial_54 : decode cL_serial 54 = .ok (.aload_n 0, 1) := by decide +kernel
theorem dL_serial_55 : decode cL_serial 55 = .ok (.iconst 0, 1) := by decide +kernel
theorem dL_serial_56 : decode cL_serial 56 = .ok (.invokevirtual 69, 3) := by decide +kernel
theorem dL_serial_59 : decode cL_serial 59 = .ok (.iconst (-1), 1) := by decide +kernel
theorem dL_serial_60 : decode cL_serial 60 = .ok (.if_icmp .ne 174, 3) := by decide +kernel
theorem dL_serial_63 : decode cL_serial 63 = .ok (.aload_n 0, 1) := by decide +kernel
theorem dL_serial_64 : decode cL_serial 64 = .ok (.iconst 5, 1) := by decide +kernel
theorem dL_serial_65 : decode cL_serial 65 = .ok (.invokevirtual 72, 3) := by decide +kernel
theorem dL_serial_68 : decode cL_serial 68 = .ok (.ifCond .ne 166, 3) := by decide +kernel
theorem dL_serial_71 : decode cL_serial 71 = .ok (.aload_n 0, 1) := by decide +kernel
theorem dL_serial_72 : decode cL_serial 72 = .ok (.iconst 1, 1) := by decide +kernel
theorem dL_serial_73 : decode cL_serial 73 = .ok (.iconst (-1), 1) := by decide +kernel
theorem dL_serial_74 : decode cL_serial 74 = .ok (.bipush 20, 2) := by decide +kernel
theorem dL_serial_76 : decode cL_serial 76 = .ok (.invokevirtual 9, 3) := by decide +kernel
theorem dL_serial_79 : decode cL_serial 79 = .ok (.ifCond .ne 155, 3) := by decide +kernel
theorem dL_serial_82 : decode cL_serial 82 = .ok (.aload_n 0, 1) := by decide +kernel
theorem dL_serial_83 : decode cL_serial 83 = .ok (.iconst 3, 1) := by decide +kernel
theorem dL_serial_84 : decode cL_serial 84 = .ok (.iconst 1, 1) := by decide +kernel
theorem dL_serial_85 : decode cL_serial 85 = .ok (.bipush 15, 2) := by decide +kernel
theorem dL_serial_87 : decode cL_serial 87 = .ok (.invokevirtual 9, 3) := by decide +kernel
theorem dL_serial_90 : decode cL_serial 90 = .ok (.iconst 1, 1) := by decide +kernel
theorem dL_serial_91 : decode cL_serial 91 = .ok (.if_icmp .ne 143, 3) := by decide +kernel
theorem dL_serial_94 : decode cL_serial 94 = .ok (.aload_n 0, 1) := by decide +kernel
theorem dL_serial_95 : decode cL_serial 95 = .ok (.iconst 2, 1) := by decide +kernel
theorem dL_serial_96 : decode cL_serial 96 = .ok (.iconst (-1), 1) := by decide +kernel
theorem dL_serial_97 : decode cL_serial 97 = .ok (.bipush 9, 2) := by decide +kernel
theorem dL_serial_99 : decode cL_serial 99 = .ok (.invokevirtual 9, 3) := by decide +kernel
theorem dL_serial_102 : decode cL_serial 102 = .ok (.iconst 2, 1) := by decide +kernel
theorem dL_serial_103 : decode cL_serial 103 = .ok (.if_icmp .ne 131, 3) := by decide +kernel
theorem dL_serial_106 : decode cL_serial 106 = .ok (.aload_n 0, 1) := by decide +kernel
theorem dL_serial_107 : decode cL_serial 107 = .ok (.iconst 5, 1) := by decide +kernel
theorem dL_serial_108 : decode cL_serial 108 = .ok (.iconst 2, 1) := by decide +kernel
theorem dL_serial_109 : decode cL_serial 109 = .ok (.bipush 99, 2) := by decide +kernel
theorem dL_serial_111 : decode cL_serial 111 = .ok (.invokevirtual 9, 3) := by decide +kernel
theorem dL_serial_114 : decode cL_serial 114 = .ok (.iconst 3, 1) := by decide +kernel
theorem dL_serial_115 : decode cL_serial 115 = .ok (.if_icmp .ne 119, 3) := by decide +kernel
theorem dL_serial_118 : decode cL_serial 118 = .ok (.aload_n 0, 1) := by decide +kernel
theorem dL_serial_119 : decode cL_serial 119 = .ok (.bipush 7, 2) := by decide +kernel
theorem dL_serial_121 : decode cL_serial 121 = .ok (.iconst (-1), 1) := by decide +kernel
theorem dL_serial_122 : decode cL_serial 122 = .ok (.bipush 10, 2) := by decide +kernel
theorem dL_serial_124 : decode cL_serial 124 = .ok (.invokevirtual 9, 3) := by decide +kernel
theorem dL_serial_127 : decode cL_serial 127 = .ok (.iconst 4, 1) := by decide +kernel
theorem dL_serial_128 : decode cL_serial 128 = .ok (.if_icmp .ne 106, 3) := by decide +kernel
theorem dL_serial_131 : decode cL_serial 131 = .ok (.aload_n 0, 1) := by decide +kernel
theorem dL_serial_132 : decode cL_serial 132 = .ok (.iconst 1, 1) := by decide +kernel
theorem dL_serial_133 : decode cL_serial 133 = .ok (.iconst 3, 1) := by decide +kernel
theorem dL_serial_134 : decode cL_serial 134 = .ok (.invokevirtual 48, 3) := by decide +kernel
theorem dL_serial_137 : decode cL_serial 137 = .ok (.iconst 1, 1) := by decide +kernel
theorem dL_serial_138 : decode cL_serial 138 = .ok (.if_icmp .ne 96, 3) := by decide +kernel
theorem dL_serial_141 : decode cL_serial 141 = .ok (.aload_n 0, 1) := by decide +kernel
theorem dL_serial_142 : decode cL_serial 142 = .ok (.iconst 2, 1) := by decide +kernel
theorem dL_serial_143 : decode cL_serial 143 = .ok (.iconst 3, 1) := by decide +kernel
theorem dL_serial_144 : decode cL_serial 144 = .ok (.invokevirtual 48, 3) := by decide +kernel
theorem dL_serial_147 : decode cL_serial 147 = .ok (.iconst 2, 1) := by decide +kernel
theorem dL_serial_148 : decode cL_serial 148 = .ok (.if_icmp .ne 86, 3) := by decide +kernel
theorem dL_serial_151 : decode cL_serial 151 = .ok (.aload_n 0, 1) := by decide +kernel
theorem dL_serial_152 : decode cL_serial 152 = .ok (.iconst 3, 1) := by decide +kernel
theorem dL_serial_153 : decode cL_serial 153 = .ok (.iconst 3, 1) := by decide +kernel
theorem dL_serial_154 : decode cL_serial 154 = .ok (.invokevirtual 48, 3) := by decide +kernel
theorem dL_serial_157 : decode cL_serial 157 = .ok (.iconst 2, 1) := by decide +kernel
theorem dL_serial_158 : decode cL_serial 158 = .ok (.if_icmp .ne 76, 3) := by decide +kernel
theorem dL_serial_161 : decode cL_serial 161 = .ok (.aload_n 0, 1) := by decide +kernel
theorem dL_serial_162 : decode cL_serial 162 = .ok (.iconst 4, 1) := by decide +kernel
theorem dL_serial_163 : decode cL_serial 163 = .ok (.iconst 3, 1) := by decide +kernel
theorem dL_serial_164 : decode cL_serial 164 = .ok (.invokevirtual 48, 3) := by decide +kernel
theorem dL_serial_167 : decode cL_serial 167 = .ok (.bipush 12, 2) := by decide +kernel
theorem dL_serial_169 : decode cL_serial 169 = .ok (.if_icmp .ne 65, 3) := by decide +kernel
theorem dL_serial_172 : decode cL_serial 172 = .ok (.aload_n 0, 1) := by decide +kernel
theorem dL_serial_173 : decode cL_serial 173 = .ok (.iconst 4, 1) := by decide +kernel
theorem dL_serial_174 : decode cL_serial 174 = .ok (.bipush 6, 2) := by decide +kernel
theorem dL_serial_176 : decode cL_serial 176 = .ok (.invokevirtual 48, 3) := by decide +kernel
theorem dL_serial_179 : decode cL_serial 179 = .ok (.iconst 4, 1) := by decide +kernel
theorem dL_serial_180 : decode cL_serial 180 = .ok (.if_icmp .ne 54, 3) := by decide +kernel
theorem dL_serial_183 : decode cL_serial 183 = .ok (.aload_n 0, 1) := by decide +kernel
theorem dL_serial_184 : decode cL_serial 184 = .ok (.iconst 1, 1) := by decide +kernel
theorem dL_serial_185 : decode cL_serial 185 = .ok (.iconst 4, 1) := by decide +kernel
theorem dL_serial_186 : decode cL_serial 186 = .ok (.invokevirtual 48, 3) := by decide +kernel
theorem dL_serial_189 : decode cL_serial 189 = .ok (.iconst 2, 1) := by decide +kernel
theorem dL_serial_190 : decode cL_serial 190 = .ok (.if_icmp .ne 44, 3) := by decide +kernel
theorem dL_serial_193 : decode cL_serial 193 = .ok (.aload_n 0, 1) := by decide +kernel
theorem dL_serial_194 : decode cL_serial 194 = .ok (.iconst 0, 1) := by decide +kernel
theorem dL_serial_195 : decode cL_serial 195 = .ok (.bipush 6, 2) := by decide +kernel
theorem dL_serial_197 : decode cL_serial 197 = .ok (.invokevirtual 48, 3) := by decide +kernel
theorem dL_serial_200 : decode cL_serial 200 = .ok (.ifCond .ne 34, 3) := by decide +kernel
theorem dL_serial_203 : decode cL_serial 203 = .ok (.aload_n 0, 1) := by decide +kernel
theorem dL_serial_204 : decode cL_serial 204 = .ok (.iconst 3, 1) := by decide +kernel
theorem dL_serial_205 : decode cL_serial 205 = .ok (.iconst 1, 1) := by decide +kernel
theorem dL_serial_206 : decode cL_serial 206 = .ok (.invokevirtual 48, 3) := by decide +kernel
theorem dL_serial_209 : decode cL_serial 209 = .ok (.iconst 2, 1) := by decide +kernel
theorem dL_serial_210 : decode cL_serial 210 = .ok (.if_icmp .ne 24, 3) := by decide +kernel
theorem dL_serial_213 : decode cL_serial 213 = .ok (.aload_n 0, 1) := by decide +kernel
theorem dL_serial_214 : decode cL_serial 214 = .ok (.iconst 4, 1) := by decide +kernel
theorem dL_serial_215 : decode cL_serial 215 = .ok (.iconst 1, 1) := by decide +kernel
theorem dL_serial_216 : decode cL_serial 216 = .ok (.invokevirtual 48, 3) := by decide +kernel
theorem dL_serial_219 : decode cL_serial 219 = .ok (.iconst (-1), 1) := by decide +kernel
theorem dL_serial_220 : decode cL_serial 220 = .ok (.if_icmp .ne 14, 3) := by decide +kernel
theorem dL_serial_223 : decode cL_serial 223 = .ok (.aload_n 0, 1) := by decide +kernel
theorem dL_serial_224 : decode cL_serial 224 = .ok (.iconst 1, 1) := by decide +kernel
theorem dL_serial_225 : decode cL_serial 225 = .ok (.invokevirtual 60, 3) := by decide +kernel
theorem dL_serial_228 : decode cL_serial 228 = .ok (.sipush 153, 3) := by decide +kernel
theorem dL_serial_231 : decode cL_serial 231 = .ok (.if_icmp .eq 5, 3) := by decide +kernel
theorem dL_serial_234 : decode cL_serial 234 = .ok (.iconst 0, 1) := by decide +kernel
theorem dL_serial_235 : decode cL_serial 235 = .ok (.ireturn, 1) := by decide +kernel
theorem dL_serial_236 : decode cL_serial 236 = .ok (.aload_n 0, 1) := by decide +kernel
theorem dL_serial_237 : decode cL_serial 237 = .ok (.iconst 0, 1) := by decide +kernel
theorem dL_serial_238 : decode cL_serial 238 = .ok (.iconst 4, 1) := by decide +kernel
theorem dL_serial_239 : decode cL_serial 239 = .ok (.iconst 0, 1) := by decide +kernel
theorem dL_serial_240 : decode cL_serial 240 = .ok (.invokevirtual 66, 3) := by decide +kernel
theorem dL_serial_243 : decode cL_serial 243 = .ok (.iconst 4, 1) := by decide +kernel
theorem dL_serial_244 : decode cL_serial 244 = .ok (.if_icmp .ne 223, 3) := by decide +kernel
theorem dL_serial_247 : decode cL_serial 247 = .ok (.aload_n 0, 1) := by decide +kernel
theorem dL_serial_248 : decode cL_serial 248 = .ok (.iconst 0, 1) := by decide +kernel
theorem dL_serial_249 : decode cL_serial 249 = .ok (.iconst 4, 1) := by decide +kernel
theorem dL_serial_250 : decode cL_serial 250 = .ok (.iconst 1, 1) := by decide +kernel
theorem dL_serial_251 : decode cL_serial 251 = .ok (.invokevirtual 66, 3) := by decide +kernel
theorem dL_serial_254 : decode cL_serial 254 = .ok (.bipush 15, 2) := by decide +kernel
theorem dL_serial_256 : decode cL_serial 256 = .ok (.if_icmp .ne 211, 3) := by decide +kernel
theorem dL_serial_259 : decode cL_serial 259 = .ok (.aload_n 0, 1) := by decide +kernel
theorem dL_serial_260 : decode cL_serial 260 = .ok (.iconst 0, 1) := by decide +kernel
theorem dL_serial_261 : decode cL_serial 261 = .ok (.iconst 4, 1) := by decide +kernel
theorem dL_serial_262 : decode cL_serial 262 = .ok (.iconst 2, 1) := by decide +kernel
theorem dL_serial_263 : decode cL_serial 263 = .ok (.invokevirtual 66, 3) := by decide +kernel
theorem dL_serial_266 : decode cL_serial 266 = .ok (.bipush 15, 2) := by decide +kernel
theorem dL_serial_268 : decode cL_serial 268 = .ok (.if_icmp .ne 199, 3) := by decide +kernel
theorem dL_serial_271 : decode cL_serial 271 = .ok (.aload_n 0, 1) := by decide +kernel
theorem dL_serial_272 : decode cL_serial 272 = .ok (.iconst 0, 1) := by decide +kernel
theorem dL_serial_273 : decode cL_serial 273 = .ok (.iconst 4, 1) := by decide +kernel
theorem dL_serial_274 : decode cL_serial 274 = .ok (.iconst 3, 1) := by decide +kernel
theorem dL_serial_275 : decode cL_serial 275 = .ok (.invokevirtual 66, 3) := by decide +kernel
theorem dL_serial_278 : decode cL_serial 278 = .ok (.ifCond .ne 189, 3) := by decide +kernel
theorem dL_serial_281 : decode cL_serial 281 = .ok (.aload_n 0, 1) := by decide +kernel
theorem dL_serial_282 : decode cL_serial 282 = .ok (.iconst 0, 1) := by decide +kernel
theorem dL_serial_283 : decode cL_serial 283 = .ok (.iconst 4, 1) := by decide +kernel
theorem dL_serial_284 : decode cL_serial 284 = .ok (.iconst 4, 1) := by decide +kernel
theorem dL_serial_285 : decode cL_serial 285 = .ok (.invokevirtual 66, 3) := by decide +kernel
theorem dL_serial_288 : decode cL_serial 288 = .ok (.bipush 25, 2) := by decide +kernel
theorem dL_serial_290 : decode cL_serial 290 = .ok (.if_icmp .ne 177, 3) := by decide +kernel
theorem dL_serial_293 : decode cL_serial 293 = .ok (.aload_n 0, 1) := by decide +kernel
theorem dL_serial_294 : decode cL_serial 294 = .ok (.iconst 0, 1) := by decide +kernel
theorem dL_serial_295 : decode cL_serial 295 = .ok (.iconst 2, 1) := by decide +kernel
theorem dL_serial_296 : decode cL_serial 296 = .ok (.invokevirtual 22, 3) := by decide +kernel
theorem dL_serial_299 : decode cL_serial 299 = .ok (.iconst 4, 1) := by decide +kernel
theorem dL_serial_300 : decode cL_serial 300 = .ok (.if_icmp .ne 167, 3) := by decide +kernel
theorem dL_serial_303 : decode cL_serial 303 = .ok (.aload_n 0, 1) := by decide +kernel
theorem dL_serial_304 : decode cL_serial 304 = .ok (.iconst 0, 1) := by decide +kernel
theorem dL_serial_305 : decode cL_serial 305 = .ok (.iconst 4, 1) := by decide +kernel
theorem dL_serial_306 : decode cL_serial 306 = .ok (.iconst 2, 1) := by decide +kernel
theorem dL_serial_307 : decode cL_serial 307 = .ok (.invokevirtual 66, 3) := by decide +kernel
theorem dL_serial_310 : decode cL_serial 310 = .ok (.bipush 12, 2) := by decide +kernel
theorem dL_serial_312 : decode cL_serial 312 = .ok (.if_icmp .ne 155, 3) := by decide +kernel
theorem dL_serial_315 : decode cL_serial 315 = .ok (.aload_n 0, 1) := by decide +kernel
theorem dL_serial_316 : decode cL_serial 316 = .ok (.iconst 0, 1) := by decide +kernel
theorem dL_serial_317 : decode cL_serial 317 = .ok (.iconst 4, 1) := by decide +kernel
theorem dL_serial_318 : decode cL_serial 318 = .ok (.iconst 1, 1) := by decide +kernel
theorem dL_serial_319 : decode cL_serial 319 = .ok (.invokevirtual 66, 3) := by decide +kernel
theorem dL_serial_322 : decode cL_serial 322 = .ok (.bipush 11, 2) := by decide +kernel
theorem dL_serial_324 : decode cL_serial 324 = .ok (.if_icmp .ne 143, 3) := by decide +kernel
theorem dL_serial_327 : decode cL_serial 327 = .ok (.aload_n 0, 1) := by decide +kernel
theorem dL_serial_328 : decode cL_serial 328 = .ok (.iconst 0, 1) := by decide +kernel
theorem dL_serial_329 : decode cL_serial 329 = .ok (.iconst 4, 1) := by decide +kernel
theorem dL_serial_330 : decode cL_serial 330 = .ok (.iconst 3, 1) := by decide +kernel
theorem dL_serial_331 : decode cL_serial 331 = .ok (.invokevirtual 66, 3) := by decide +kernel
theorem dL_serial_334 : decode cL_serial 334 = .ok (.iconst 2, 1) := by decide +kernel
theorem dL_serial_335 : decode cL_serial 335 = .ok (.if_icmp .ne 132, 3) := by decide +kernel
theorem dL_serial_338 : decode cL_serial 338 = .ok (.aload_n 0, 1) := by decide +kernel
theorem dL_serial_339 : decode cL_serial 339 = .ok (.iconst 0, 1) := by decide +kernel
theorem dL_serial_340 : decode cL_serial 340 = .ok (.invokevirtual 69, 3) := by decide +kernel
theorem dL_serial_343 : decode cL_serial 343 = .ok (.iconst 2, 1) := by decide +kernel
theorem dL_serial_344 : decode cL_serial 344 = .ok (.if_icmp .ne 123, 3) := by decide +kernel
theorem dL_serial_347 : decode cL_serial 347 = .ok (.aload_n 0, 1) := by decide +kernel
theorem dL_serial_348 : decode cL_serial 348 = .ok (.iconst 0, 1) := by decide +kernel
theorem dL_serial_349 : decode cL_serial 349 = .ok (.invokevirtual 72, 3) := by decide +kernel
theorem dL_serial_352 : decode cL_serial 352 = .ok (.iconst 4, 1) := by decide +kernel
theorem dL_serial_353 : decode cL_serial 353 = .ok (.if_icmp .ne 114, 3) := by decide +kernel
theorem dL_serial_356 : decode cL_serial 356 = .ok (.aload_n 0, 1) := by decide +kernel
theorem dL_serial_357 : decode cL_serial 357 = .ok (.iconst 0, 1) := by decide +kernel
theorem dL_serial_358 : decode cL_serial 358 = .ok (.iconst 4, 1) := by decide +kernel
theorem dL_serial_359 : decode cL_serial 359 = .ok (.invokevirtual 26, 3) := by decide +kernel
theorem dL_serial_362 : decode cL_serial 362 = .ok (.iconst 2, 1) := by decide +kernel
theorem dL_serial_363 : decode cL_serial 363 = .ok (.if_icmp .ne 104, 3) := by decide +kernel
theorem dL_serial_366 : decode cL_serial 366 = .ok (.aload_n 0, 1) := by decide +kernel
theorem dL_serial_367 : decode cL_serial 367 = .ok (.iconst 4, 1) := by decide +kernel
theorem dL_serial_368 : decode cL_serial 368 = .ok (.iconst 0, 1) := by decide +kernel
theorem dL_serial_369 : decode cL_serial 369 = .ok (.iconst 4, 1) := by decide +kernel
theorem dL_serial_370 : decode cL_serial 370 = .ok (.iconst 0, 1) := by decide +kernel
theorem dL_serial_371 : decode cL_serial 371 = .ok (.invokestatic 87, 3) := by decide +kernel
theorem dL_serial_374 : decode cL_serial 374 = .ok (.bipush (-12), 2) := by decide +kernel
theorem dL_serial_376 : decode cL_serial 376 = .ok (.if_icmp .ne 91, 3) := by decide +kernel
theorem dL_serial_379 : decode cL_serial 379 = .ok (.aload_n 0, 1) := by decide +kernel
theorem dL_serial_380 : decode cL_serial 380 = .ok (.iconst 0, 1) := by decide +kernel
theorem dL_serial_381 : decode cL_serial 381 = .ok (.iconst 3, 1) := by decide +kernel
theorem dL_serial_382 : decode cL_serial 382 = .ok (.invokevirtual 51, 3) := by decide +kernel
theorem dL_serial_385 : decode cL_serial 385 = .ok (.iconst 1, 1) := by decide +kernel
theorem dL_serial_386 : decode cL_serial 386 = .ok (.if_icmp .ne 81, 3) := by decide +kernel
theorem dL_serial_389 : decode cL_serial 389 = .ok (.aload_n 0, 1) := by decide +kernel
theorem dL_serial_390 : decode cL_serial 390 = .ok (.iconst 0, 1) := by decide +kernel
theorem dL_serial_391 : decode cL_serial 391 = .ok (.iconst 4, 1) := by decide +kernel
theorem dL_serial_392 : decode cL_serial 392 = .ok (.invokevirtual 51, 3) := by decide +kernel
theorem dL_serial_395 : decode cL_serial 395 = .ok (.iconst 2, 1) := by decide +kernel
theorem dL_serial_396 : decode cL_serial 396 = .ok (.if_icmp .ne 71, 3) := by decide +kernel
theorem dL_serial_399 : decode cL_serial 399 = .ok (.aload_n 0, 1) := by decide +kernel
theorem dL_serial_400 : decode cL_serial 400 = .ok (.iconst 0, 1) := by decide +kernel
theorem dL_serial_401 : decode cL_serial 401 = .ok (.iconst 1, 1) := by decide +kernel
theorem dL_serial_402 : decode cL_serial 402 = .ok (.invokevirtual 51, 3) := by decide +kernel
theorem dL_serial_405 : decode cL_serial 405 = .ok (.ifCond .ne 62, 3) := by decide +kernel
theorem dL_serial_408 : decode cL_serial 408 = .ok (.aload_n 0, 1) := by decide +kernel
theorem dL_serial_409 : decode cL_serial 409 = .ok (.iconst 0, 1) := by decide +kernel
theorem dL_serial_410 : decode cL_serial 410 = .ok (.iconst 3, 1) := by decide +kernel
theorem dL_serial_411 : decode cL_serial 411 = .ok (.invokevirtual 54, 3) := by decide +kernel
theorem dL_serial_414 : decode cL_serial 414 = .ok (.ifCond .ne 53, 3) := by decide +kernel
theorem dL_serial_417 : decode cL_serial 417 = .ok (.aload_n 0, 1) := by decide +kernel
theorem dL_serial_418 : decode cL_serial 418 = .ok (.iconst 0, 1) := by decide +kernel
theorem dL_serial_419 : decode cL_serial 419 = .ok (.iconst 4, 1) := by decide +kernel
theorem dL_serial_420 : decode cL_serial 420 = .ok (.invokevirtual 54, 3) := by decide +kernel
theorem dL_serial_423 : decode cL_serial 423 = .ok (.bipush 21, 2) := by decide +kernel
theorem dL_serial_425 : decode cL_serial 425 = .ok (.if_icmp .ne 42, 3) := by decide +kernel
theorem dL_serial_428 : decode cL_serial 428 = .ok (.aload_n 0, 1) := by decide +kernel
theorem dL_serial_429 : decode cL_serial 429 = .ok (.iconst 0, 1) := by decide +kernel
theorem dL_serial_430 : decode cL_serial 430 = .ok (.iconst 5, 1) := by decide +kernel
theorem dL_serial_431 : decode cL_serial 431 = .ok (.invokevirtual 54, 3) := by decide +kernel
theorem dL_serial_434 : decode cL_serial 434 = .ok (.iconst 2, 1) := by decide +kernel
theorem dL_serial_435 : decode cL_serial 435 = .ok (.if_icmp .ne 32, 3) := by decide +kernel
theorem dL_serial_438 : decode cL_serial 438 = .ok (.aload_n 0, 1) := by decide +kernel
theorem dL_serial_439 : decode cL_serial 439 = .ok (.iconst 0, 1) := by decide +kernel
theorem dL_serial_440 : decode cL_serial 440 = .ok (.bipush 6, 2) := by decide +kernel
theorem dL_serial_442 : decode cL_serial 442 = .ok (.invokevirtual 54, 3) := by decide +kernel
theorem dL_serial_445 : decode cL_serial 445 = .ok (.iconst 2, 1) := by decide +kernel
theorem dL_serial_446 : decode cL_serial 446 = .ok (.if_icmp .ne 21, 3) := by decide +kernel
theorem dL_serial_449 : decode cL_serial 449 = .ok (.aload_n 0, 1) := by decide +kernel
theorem dL_serial_450 : decode cL_serial 450 = .ok (.iconst 0, 1) := by decide +kernel
theorem dL_serial_451 : decode cL_serial 451 = .ok (.iconst 2, 1) := by decide +kernel
theorem dL_serial_452 : decode cL_serial 452 = .ok (.iconst 0, 1) := by decide +kernel
theorem dL_serial_453 : decode cL_serial 453 = .ok (.invokevirtual 66, 3) := by decide +kernel
theorem dL_serial_456 : decode cL_serial 456 = .ok (.iconst 2, 1) := by decide +kernel
theorem dL_serial_457 : decode cL_serial 457 = .ok (.if_icmp .ne 10, 3) := by decide +kernel
theorem dL_serial_460 : decode cL_serial 460 = .ok (.aload_n 0, 1) := by decide +kernel
theorem dL_serial_461 : decode cL_serial 461 = .ok (.invokestatic 103, 3) := by decide +kernel
theorem dL_serial_464 : decode cL_serial 464 = .ok (.ifCond .ne 5, 3) := by decide +kernel
theorem dL_serial_467 : decode cL_serial 467 = .ok (.iconst 0, 1) := by decide +kernel
theorem dL_serial_468 : decode cL_serial 468 = .ok (.ireturn, 1) := by decide +kernel
theorem dL_serial_469 : decode cL_serial 469 = .ok (.aload_n 0, 1) := by decide +kernel
theorem dL_serial_470 : decode cL_serial 470 = .ok (.iconst 1, 1) := by decide +kernel
theorem dL_serial_471 : decode cL_serial 471 = .ok (.iconst 3, 1) := by decide +kernel
theorem dL_serial_472 : decode cL_serial 472 = .ok (.invokevirtual 26, 3) := by decide +kernel
theorem dL_serial_475 : decode cL_serial 475 = .ok (.iconst 2, 1) := by decide +kernel
theorem dL_serial_476 : decode cL_serial 476 = .ok (.if_icmp .ne 233, 3) := by decide +kernel
theorem dL_serial_479 : decode cL_serial 479 = .ok (.aload_n 0, 1) := by decide +kernel
theorem dL_serial_480 : decode cL_serial 480 = .ok (.iconst 1, 1) := by decide +kernel
theorem dL_serial_481 : decode cL_serial 481 = .ok (.iconst 4, 1) := by decide +kernel
theorem dL_serial_482 : decode cL_serial 482 = .ok (.invokevirtual 54, 3) := by decide +kernel
theorem dL_serial_485 : decode cL_serial 485 = .ok (.bipush 103, 2) := by decide +kernel
theorem dL_serial_487 : decode cL_serial 487 = .ok (.if_icmp .ne 222, 3) := by decide +kernel
theorem dL_serial_490 : decode cL_serial 490 = .ok (.aload_n 0, 1) := by decide +kernel
theorem dL_serial_491 : decode cL_serial 491 = .ok (.iconst 1, 1) := by decide +kernel
theorem dL_serial_492 : decode cL_serial 492 = .ok (.iconst 1, 1) := by decide +kernel
theorem dL_serial_493 : decode cL_serial 493 = .ok (.invokevirtual 54, 3) := by decide +kernel
theorem dL_serial_496 : decode cL_serial 496 = .ok (.iconst 2, 1) := by decide +kernel
theorem dL_serial_497 : decode cL_serial 497 = .ok (.if_icmp .ne 212, 3) := by decide +kernel
theorem dL_serial_500 : decode cL_serial 500 = .ok (.aload_n 0, 1) := by decide +kernel
theorem dL_serial_501 : decode cL_serial 501 = .ok (.iconst 1, 1) := by decide +kernel
theorem dL_serial_502 : decode cL_serial 502 = .ok (.iconst 3, 1) := by decide +kernel
theorem dL_serial_503 : decode cL_serial 503 = .ok (.invokevirtual 54, 3) := by decide +kernel
theorem dL_serial_506 : decode cL_serial 506 = .ok (.bipush 6, 2) := by decide +kernel
theorem dL_serial_508 : decode cL_serial 508 = .ok (.if_icmp .ne 201, 3) := by decide +kernel
theorem dL_serial_511 : decode cL_serial 511 = .ok (.aload_n 0, 1) := by decide +kernel
theorem dL_serial_512 : decode cL_serial 512 = .ok (.iconst 1, 1) := by decide +kernel
theorem dL_serial_513 : decode cL_serial 513 = .ok (.iconst 3, 1) := by decide +kernel
theorem dL_serial_514 : decode cL_serial 514 = .ok (.invokevirtual 57, 3) := by decide +kernel
theorem dL_serial_517 : decode cL_serial 517 = .ok (.iconst 1, 1) := by decide +kernel
theorem dL_serial_518 : decode cL_serial 518 = .ok (.if_icmp .ne 191, 3) := by decide +kernel
theorem dL_serial_521 : decode cL_serial 521 = .ok (.aload_n 0, 1) := by decide +kernel
theorem dL_serial_522 : decode cL_serial 522 = .ok (.iconst 2, 1) := by decide +kernel
theorem dL_serial_523 : decode cL_serial 523 = .ok (.iconst 3, 1) := by decide +kernel
theorem dL_serial_524 : decode cL_serial 524 = .ok (.invokevirtual 57, 3) := by decide +kernel
theorem dL_serial_527 : decode cL_serial 527 = .ok (.iconst 1, 1) := by decide +kernel
theorem dL_serial_528 : decode cL_serial 528 = .ok (.if_icmp .ne 181, 3) := by decide +kernel
theorem dL_serial_531 : decode cL_serial 531 = .ok (.aload_n 0, 1) := by decide +kernel
theorem dL_serial_532 : decode cL_serial 532 = .ok (.iconst 0, 1) := by decide +kernel
theorem dL_serial_533 : decode cL_serial 533 = .ok (.iconst 0, 1) := by decide +kernel
theorem dL_serial_534 : decode cL_serial 534 = .ok (.invokevirtual 57, 3) := by decide +kernel
theorem dL_serial_537 : decode cL_serial 537 = .ok (.iconst 4, 1) := by decide +kernel
theorem dL_serial_538 : decode cL_serial 538 = .ok (.if_icmp .ne 171, 3) := by decide +kernel
theorem dL_serial_541 : decode cL_serial 541 = .ok (.aload_n 0, 1) := by decide +kernel
theorem dL_serial_542 : decode cL_serial 542 = .ok (.iconst 0, 1) := by decide +kernel
theorem dL_serial_543 : decode cL_serial 543 = .ok (.iconst 1, 1) := by decide +kernel
theorem dL_serial_544 : decode cL_serial 544 = .ok (.invokevirtual 57, 3) := by decide +kernel
theorem dL_serial_547 : decode cL_serial 547 = .ok (.iconst 4, 1) := by decide +kernel
theorem dL_serial_548 : decode cL_serial 548 = .ok (.if_icmp .ne 161, 3) := by decide +kernel
theorem dL_serial_551 : decode cL_serial 551 = .ok (.aload_n 0, 1) := by decide +kernel
theorem dL_serial_552 : decode cL_serial 552 = .ok (.iconst 5, 1) := by decide +kernel
theorem dL_serial_553 : decode cL_serial 553 = .ok (.iconst 1, 1) := by decide +kernel
theorem dL_serial_554 : decode cL_serial 554 = .ok (.invokevirtual 57, 3) := by decide +kernel
theorem dL_serial_557 : decode cL_serial 557 = .ok (.iconst (-1), 1) := by decide +kernel
theorem dL_serial_558 : decode cL_serial 558 = .ok (.if_icmp .ne 151, 3) := by decide +kernel
theorem dL_serial_561 : decode cL_serial 561 = .ok (.aload_n 0, 1) := by decide +kernel
theorem dL_serial_562 : decode cL_serial 562 = .ok (.iconst 2, 1) := by decide +kernel
theorem dL_serial_563 : decode cL_serial 563 = .ok (.iconst 2, 1) := by decide +kernel
theorem dL_serial_564 : decode cL_serial 564 = .ok (.invokevirtual 57, 3) := by decide +kernel
theorem dL_serial_567 : decode cL_serial 567 = .ok (.iconst 1, 1) := by decide +kernel
theorem dL_serial_568 : decode cL_serial 568 = .ok (.if_icmp .ne 141, 3) := by decide +kernel
theorem dL_serial_571 : decode cL_serial 571 = .ok (.aload_n 0, 1) := by decide +kernel
theorem dL_serial_572 : decode cL_serial 572 = .ok (.iconst 0, 1) := by decide +kernel
theorem dL_serial_573 : decode cL_serial 573 = .ok (.iconst 3, 1) := by decide +kernel
theorem dL_serial_574 : decode cL_serial 574 = .ok (.invokevirtual 29, 3) := by decide +kernel
theorem dL_serial_577 : decode cL_serial 577 = .ok (.iconst 4, 1) := by decide +kernel
theorem dL_serial_578 : decode cL_serial 578 = .ok (.if_icmp .ne 131, 3) := by decide +kernel
theorem dL_serial_581 : decode cL_serial 581 = .ok (.aload_n 0, 1) := by decide +kernel
theorem dL_serial_582 : decode cL_serial 582 = .ok (.iconst 3, 1) := by decide +kernel
theorem dL_serial_583 : decode cL_serial 583 = .ok (.invokevirtual 60, 3) := by decide +kernel
theorem dL_serial_586 : decode cL_serial 586 = .ok (.iconst 2, 1) := by decide +kernel
theorem dL_serial_587 : decode cL_serial 587 = .ok (.if_icmp .ne 122, 3) := by decide +kernel
theorem dL_serial_590 : decode cL_serial 590 = .ok (.aload_n 0, 1) := by decide +kernel
theorem dL_serial_591 : decode cL_serial 591 = .ok (.iconst 2, 1) := by decide +kernel
theorem dL_serial_592 : decode cL_serial 592 = .ok (.invokevirtual 60, 3) := by decide +kernel
theorem dL_serial_595 : decode cL_serial 595 = .ok (.bipush 6, 2) := by decide +kernel
theorem dL_serial_597 : decode cL_serial 597 = .ok (.if_icmp .ne 112, 3) := by decide +kernel
theorem dL_serial_600 : decode cL_serial 600 = .ok (.aload_n 0, 1) := by decide +kernel
theorem dL_serial_601 : decode cL_serial 601 = .ok (.iconst 2, 1) := by decide +kernel
theorem dL_serial_602 : decode cL_serial 602 = .ok (.iconst 0, 1) := by decide +kernel
theorem dL_serial_603 : decode cL_serial 603 = .ok (.invokevirtual 51, 3) := by decide +kernel
theorem dL_serial_606 : decode cL_serial 606 = .ok (.iconst 2, 1) := by decide +kernel
theorem dL_serial_607 : decode cL_serial 607 = .ok (.if_icmp .ne 102, 3) := by decide +kernel
theorem dL_serial_610 : decode cL_serial 610 = .ok (.aload_n 0, 1) := by decide +kernel
theorem dL_serial_611 : decode cL_serial 611 = .ok (.iconst 0, 1) := by decide +kernel
theorem dL_serial_612 : decode cL_serial 612 = .ok (.iconst 5, 1) := by decide +kernel
theorem dL_serial_613 : decode cL_serial 613 = .ok (.invokevirtual 48, 3) := by decide +kernel
theorem dL_serial_616 : decode cL_serial 616 = .ok (.bipush 60, 2) := by decide +kernel
theorem dL_serial_618 : decode cL_serial 618 = .ok (.if_icmp .ne 91, 3) := by decide +kernel
theorem dL_serial_621 : decode cL_serial 621 = .ok (.aload_n 0, 1) := by decide +kernel
theorem dL_serial_622 : decode cL_serial 622 = .ok (.iconst 1, 1) := by decide +kernel
theorem dL_serial_623 : decode cL_serial 623 = .ok (.invokevirtual 32, 3) := by decide +kernel
theorem dL_serial_626 : decode cL_serial 626 = .ok (.iconst 2, 1) := by decide +kernel
theorem dL_serial_627 : decode cL_serial 627 = .ok (.if_icmp .ne 82, 3) := by decide +kernel
theorem dL_serial_630 : decode cL_serial 630 = .ok (.aload_n 0, 1) := by decide +kernel
theorem dL_serial_631 : decode cL_serial 631 = .ok (.iconst 1, 1) := by decide +kernel
theorem dL_serial_632 : decode cL_serial 632 = .ok (.iconst 3, 1) := by decide +kernel
theorem dL_serial_633 : decode cL_serial 633 = .ok (.invokevirtual 54, 3) := by decide +kernel
theorem dL_serial_636 : decode cL_serial 636 = .ok (.iconst 4, 1) := by decide +kernel
theorem dL_serial_637 : decode cL_serial 637 = .ok (.if_icmp .ne 72, 3) := by decide +kernel
theorem dL_serial_640 : decode cL_serial 640 = .ok (.aload_n 0, 1) := by decide +kernel
theorem dL_serial_641 : decode cL_serial 641 = .ok (.iconst 0, 1) := by decide +kernel
theorem dL_serial_642 : decode cL_serial 642 = .ok (.invokevirtual 36, 3) := by decide +kernel
theorem dL_serial_645 : decode cL_serial 645 = .ok (.sipush 143, 3) := by decide +kernel
theorem dL_serial_648 : decode cL_serial 648 = .ok (.if_icmp .ne 61, 3) := by decide +kernel
theorem dL_serial_651 : decode cL_serial 651 = .ok (.aload_n 0, 1) := by decide +kernel
theorem dL_serial_652 : decode cL_serial 652 = .ok (.iconst 0, 1) := by decide +kernel
theorem dL_serial_653 : decode cL_serial 653 = .ok (.iconst 0, 1) := by decide +kernel
theorem dL_serial_654 : decode cL_serial 654 = .ok (.invokevirtual 54, 3) := by decide +kernel
theorem dL_serial_657 : decode cL_serial 657 = .ok (.iconst 5, 1) := by decide +kernel
theorem dL_serial_658 : decode cL_serial 658 = .ok (.if_icmp .ne 51, 3) := by decide +kernel
theorem dL_serial_661 : decode cL_serial 661 = .ok (.aload_n 0, 1) := by decide +kernel
theorem dL_serial_662 : decode cL_serial 662 = .ok (.iconst 5, 1) := by decide +kernel
theorem dL_serial_663 : decode cL_serial 663 = .ok (.invokevirtual 60, 3) := by decide +kernel
theorem dL_serial_666 : decode cL_serial 666 = .ok (.iconst 1, 1) := by decide +kernel
theorem dL_serial_667 : decode cL_serial 667 = .ok (.if_icmp .ne 42, 3) := by decide +kernel
theorem dL_serial_670 : decode cL_serial 670 = .ok (.aload_n 0, 1) := by decide +kernel
theorem dL_serial_671 : decode cL_serial 671 = .ok (.iconst 4, 1) := by decide +kernel
theorem dL_serial_672 : decode cL_serial 672 = .ok (.invokevirtual 60, 3) := by decide +kernel
theorem dL_serial_675 : decode cL_serial 675 = .ok (.sipush 347, 3) := by decide +kernel
theorem dL_serial_678 : decode cL_serial 678 = .ok (.if_icmp .ne 31, 3) := by decide +kernel
theorem dL_serial_681 : decode cL_serial 681 = .ok (.aload_n 0, 1) := by decide +kernel
theorem dL_serial_682 : decode cL_serial 682 = .ok (.invokevirtual 99, 3) := by decide +kernel
theorem dL_serial_685 : decode cL_serial 685 = .ok (.ldc2_w 107, 3) := by decide +kernel
theorem dL_serial_688 : decode cL_serial 688 = .ok (.dcmp .l, 1) := by decide +kernel
theorem dL_serial_689 : decode cL_serial 689 = .ok (.ifCond .ne 20, 3) := by decide +kernel
theorem dL_serial_692 : decode cL_serial 692 = .ok (.aload_n 0, 1) := by decide +kernel
theorem dL_serial_693 : decode cL_serial 693 = .ok (.iconst 0, 1) := by decide +kernel
theorem dL_serial_694 : decode cL_serial 694 = .ok (.invokevirtual 69, 3) := by decide +kernel
theorem dL_serial_697 : decode cL_serial 697 = .ok (.iconst (-1), 1) := by decide +kernel
theorem dL_serial_698 : decode cL_serial 698 = .ok (.if_icmp .ne 11, 3) := by decide +kernel
theorem dL_serial_701 : decode cL_serial 701 = .ok (.aload_n 0, 1) := by decide +kernel
theorem dL_serial_702 : decode cL_serial 702 = .ok (.iconst 0, 1) := by decide +kernel
theorem dL_serial_703 : decode cL_serial 703 = .ok (.invokevirtual 72, 3) := by decide +kernel
theorem dL_serial_706 : decode cL_serial 706 = .ok (.ifCond .eq 5, 3) := by decide +kernel
theorem dL_serial_709 : decode cL_serial 709 = .ok (.iconst 0, 1) := by decide +kernel
theorem dL_serial_710 : decode cL_serial 710 = .ok (.ireturn, 1) := by decide +kernel
theorem dL_serial_711 : decode cL_serial 711 = .ok (.aload_n 0, 1) := by decide +kernel
theorem dL_serial_712 : decode cL_serial 712 = .ok (.invokevirtual 18, 3) := by decide +kernel
theorem dL_serial_715 : decode cL_serial 715 = .ok (.iconst 1, 1) := by decide +kernel
theorem dL_serial_716 : decode cL_serial 716 = .ok (.if_icmp .ne 117, 3) := by decide +kernel
theorem dL_serial_719 : decode cL_serial 719 = .ok (.aload_n 0, 1) := by decide +kernel
theorem dL_serial_720 : decode cL_serial 720 = .ok (.iconst 0, 1) := by decide +kernel
theorem dL_serial_721 : decode cL_serial 721 = .ok (.invokevirtual 60, 3) := by decide +kernel
theorem dL_serial_724 : decode cL_serial 724 = .ok (.iconst 4, 1) := by decide +kernel
theorem dL_serial_725 : decode cL_serial 725 = .ok (.if_icmp .ne 108, 3) := by decide +kernel
theorem dL_serial_728 : decode cL_serial 728 = .ok (.aload_n 0, 1) := by decide +kernel
theorem dL_serial_729 : decode cL_serial 729 = .ok (.iconst 3, 1) := by decide +kernel
theorem dL_serial_730 : decode cL_serial 730 = .ok (.iconst 2, 1) := by decide +kernel
theorem dL_serial_731 : decode cL_serial 731 = .ok (.iconst (-1), 1) := by decide +kernel
theorem dL_serial_732 : decode cL_serial 732 = .ok (.invokevirtual 15, 3) := by decide +kernel
theorem dL_serial_735 : decode cL_serial 735 = .ok (.iconst 5, 1) := by decide +kernel
theorem dL_serial_736 : decode cL_serial 736 = .ok (.if_icmp .ne 97, 3) := by decide +kernel
theorem dL_serial_739 : decode cL_serial 739 = .ok (.aload_n 0, 1) := by decide +kernel
theorem dL_serial_740 : decode cL_serial 740 = .ok (.iconst 3, 1) := by decide +kernel
theorem dL_serial_741 : decode cL_serial 741 = .ok (.iconst 3, 1) := by decide +kernel
theorem dL_serial_742 : decode cL_serial 742 = .ok (.invokevirtual 48, 3) := by decide +kernel
theorem dL_serial_745 : decode cL_serial 745 = .ok (.iconst 4, 1) := by decide +kernel
theorem dL_serial_746 : decode cL_serial 746 = .ok (.if_icmp .ne 87, 3) := by decide +kernel
theorem dL_serial_749 : decode cL_serial 749 = .ok (.aload_n 0, 1) := by decide +kernel
theorem dL_serial_750 : decode cL_serial 750 = .ok (.iconst 3, 1) := by decide +kernel
theorem dL_serial_751 : decode cL_serial 751 = .ok (.iconst 2, 1) := by decide +kernel
theorem dL_serial_752 : decode cL_serial 752 = .ok (.invokevirtual 48, 3) := by decide +kernel
theorem dL_serial_755 : decode cL_serial 755 = .ok (.bipush 99, 2) := by decide +kernel
theorem dL_serial_757 : decode cL_serial 757 = .ok (.if_icmp .ne 76, 3) := by decide +kernel
theorem dL_serial_760 : decode cL_serial 760 = .ok (.aload_n 0, 1) := by decide +kernel
theorem dL_serial_761 : decode cL_serial 761 = .ok (.iconst 0, 1) := by decide +kernel
theorem dL_serial_762 : decode cL_serial 762 = .ok (.iconst 3, 1) := by decide +kernel
theorem dL_serial_763 : decode cL_serial 763 = .ok (.invokevirtual 51, 3) := by decide +kernel
theorem dL_serial_766 : decode cL_serial 766 = .ok (.iconst 2, 1) := by decide +kernel
theorem dL_serial_767 : decode cL_serial 767 = .ok (.if_icmp .ne 66, 3) := by decide +kernel
theorem dL_serial_770 : decode cL_serial 770 = .ok (.aload_n 0, 1) := by decide +kernel
theorem dL_serial_771 : decode cL_serial 771 = .ok (.bipush 6, 2) := by decide +kernel
theorem dL_serial_773 : decode cL_serial 773 = .ok (.invokevirtual 60, 3) := by decide +kernel
theorem dL_serial_776 : decode cL_serial 776 = .ok (.bipush 6, 2) := by decide +kernel
theorem dL_serial_778 : decode cL_serial 778 = .ok (.if_icmp .ne 55, 3) := by decide +kernel
theorem dL_serial_781 : decode cL_serial 781 = .ok (.aload_n 0, 1) := by decide +kernel
theorem dL_serial_782 : decode cL_serial 782 = .ok (.invokevirtual 45, 3) := by decide +kernel
theorem dL_serial_785 : decode cL_serial 785 = .ok (.iconst 5, 1) := by decide +kernel
theorem dL_serial_786 : decode cL_serial 786 = .ok (.if_icmp .ne 47, 3) := by decide +kernel
theorem dL_serial_789 : decode cL_serial 789 = .ok (.aload_n 0, 1) := by decide +kernel
theorem dL_serial_790 : decode cL_serial 790 = .ok (.iconst 3, 1) := by decide +kernel
theorem dL_serial_791 : decode cL_serial 791 = .ok (.iconst 0, 1) := by decide +kernel
theorem dL_serial_792 : decode cL_serial 792 = .ok (.invokevirtual 48, 3) := by decide +kernel
theorem dL_serial_795 : decode cL_serial 795 = .ok (.iconst 5, 1) := by decide +kernel
theorem dL_serial_796 : decode cL_serial 796 = .ok (.if_icmp .ne 37, 3) := by decide +kernel
theorem dL_serial_799 : decode cL_serial 799 = .ok (.aload_n 0, 1) := by decide +kernel
theorem dL_serial_800 : decode cL_serial 800 = .ok (.invokevirtual 45, 3) := by decide +kernel
theorem dL_serial_803 : decode cL_serial 803 = .ok (.iconst 4, 1) := by decide +kernel
theorem dL_serial_804 : decode cL_serial 804 = .ok (.if_icmp .ne 29, 3) := by decide +kernel
theorem dL_serial_807 : decode cL_serial 807 = .ok (.aload_n 0, 1) := by decide +kernel
theorem dL_serial_808 : decode cL_serial 808 = .ok (.iconst 0, 1) := by decide +kernel
theorem dL_serial_809 : decode cL_serial 809 = .ok (.invokevirtual 60, 3) := by decide +kernel
theorem dL_serial_812 : decode cL_serial 812 = .ok (.iconst 5, 1) := by decide +kernel
theorem dL_serial_813 : decode cL_serial 813 = .ok (.if_icmp .ne 20, 3) := by decide +kernel
theorem dL_serial_816 : decode cL_serial 816 = .ok (.aload_n 0, 1) := by decide +kernel
theorem dL_serial_817 : decode cL_serial 817 = .ok (.iconst 0, 1) := by decide +kernel
theorem dL_serial_818 : decode cL_serial 818 = .ok (.iconst 4, 1) := by decide +kernel
theorem dL_serial_819 : decode cL_serial 819 = .ok (.invokevirtual 51, 3) := by decide +kernel
theorem dL_serial_822 : decode cL_serial 822 = .ok (.iconst 2, 1) := by decide +kernel
theorem dL_serial_823 : decode cL_serial 823 = .ok (.if_icmp .ne 10, 3) := by decide +kernel
theorem dL_serial_826 : decode cL_serial 826 = .ok (.aload_n 0, 1) := by decide +kernel
theorem dL_serial_827 : decode cL_serial 827 = .ok (.invokestatic 103, 3) := by decide +kernel
theorem dL_serial_830 : decode cL_serial 830 = .ok (.ifCond .ne 5, 3) := by decide +kernel
theorem dL_serial_833 : decode cL_serial 833 = .ok (.iconst 0, 1) := by decide +kernel
theorem dL_serial_834 : decode cL_serial 834 = .ok (.ireturn, 1) := by decide +kernel
theorem dL_serial_835 : decode cL_serial 835 = .ok (.new 10, 3) := by decide +kernel
theorem dL_serial_838 : decode cL_serial 838 = .ok (.dup, 1) := by decide +kernel
theorem dL_serial_839 : decode cL_serial 839 = .ok (.invokespecial 98, 3) := by decide +kernel
theorem dL_serial_842 : decode cL_serial 842 = .ok (.astore_n 1, 1) := by decide +kernel
theorem dL_serial_843 : decode cL_serial 843 = .ok (.iconst 0, 1) := by decide +kernel
theorem dL_serial_844 : decode cL_serial 844 = .ok (.istore_n 2, 1) := by decide +kernel
theorem dL_serial_845 : decode cL_serial 845 = .ok (.iload_n 2, 1) := by decide +kernel
theorem dL_serial_846 : decode cL_serial 846 = .ok (.bipush 20, 2) := by decide +kernel
theorem dL_serial_848 : decode cL_serial 848 = .ok (.if_icmp .ge 24, 3) := by decide +kernel
theorem dL_serial_851 : decode cL_serial 851 = .ok (.aload_n 1, 1) := by decide +kernel
theorem dL_serial_852 : decode cL_serial 852 = .ok (.iconst 1, 1) := by decide +kernel
theorem dL_serial_853 : decode cL_serial 853 = .ok (.iconst 0, 1) := by decide +kernel
theorem dL_serial_854 : decode cL_serial 854 = .ok (.iconst 1, 1) := by decide +kernel
theorem dL_serial_855 : decode cL_serial 855 = .ok (.iload_n 2, 1) := by decide +kernel
theorem dL_serial_856 : decode cL_serial 856 = .ok (.iadd, 1) := by decide +kernel
theorem dL_serial_857 : decode cL_serial 857 = .ok (.invokevirtual 9, 3) := by decide +kernel
theorem dL_serial_860 : decode cL_serial 860 = .ok (.iload_n 2, 1) := by decide +kernel
theorem dL_serial_861 : decode cL_serial 861 = .ok (.if_icmp .eq 5, 3) := by decide +kernel
theorem dL_serial_864 : decode cL_serial 864 = .ok (.iconst 0, 1) := by decide +kernel
theorem dL_serial_865 : decode cL_serial 865 = .ok (.ireturn, 1) := by decide +kernel
theorem dL_serial_866 : decode cL_serial 866 = .ok (.iinc 2 1, 3) := by decide +kernel
theorem dL_serial_869 : decode cL_serial 869 = .ok (.goto (-24), 3) := by decide +kernel
theorem dL_serial_872 : decode cL_serial 872 = .ok (.aload_n 1, 1) := by decide +kernel
theorem dL_serial_873 : decode cL_serial 873 = .ok (.iconst 0, 1) := by decide +kernel
theorem dL_serial_874 : decode cL_serial 874 = .ok (.iconst 1, 1) := by decide +kernel
theorem dL_serial_875 : decode cL_serial 875 = .ok (.iconst (-1), 1) := by decide +kernel
theorem dL_serial_876 : decode cL_serial 876 = .ok (.iconst 5, 1) := by decide +kernel
theorem dL_serial_877 : decode cL_serial 877 = .ok (.invokestatic 87, 3) := by decide +kernel
theorem dL_serial_880 : decode cL_serial 880 = .ok (.bipush (-12), 2) := by decide +kernel
theorem dL_serial_882 : decode cL_serial 882 = .ok (.if_icmp .ne 152, 3) := by decide +kernel
theorem dL_serial_885 : decode cL_serial 885 = .ok (.aload_n 1, 1) := by decide +kernel
theorem dL_serial_886 : decode cL_serial 886 = .ok (.iconst 0, 1) := by decide +kernel
theorem dL_serial_887 : decode cL_serial 887 = .ok (.iconst 0, 1) := by decide +kernel
theorem dL_serial_888 : decode cL_serial 888 = .ok (.iconst (-1), 1) := by decide +kernel
theorem dL_serial_889 : decode cL_serial 889 = .ok (.iconst 5, 1) := by decide +kernel
theorem dL_serial_890 : decode cL_serial 890 = .ok (.invokestatic 87, 3) := by decide +kernel
theorem dL_serial_893 : decode cL_serial 893 = .ok (.bipush (-11), 2) := by decide +kernel
theorem dL_serial_895 : decode cL_serial 895 = .ok (.if_icmp .ne 139, 3) := by decide +kernel
theorem dL_serial_898 : decode cL_serial 898 = .ok (.aload_n 1, 1) := by decide +kernel
theorem dL_serial_899 : decode cL_serial 899 = .ok (.bipush 48, 2) := by decide +kernel
theorem dL_serial_901 : decode cL_serial 901 = .ok (.invokevirtual 39, 3) := by decide +kernel
theorem dL_serial_904 : decode cL_serial 904 = .ok (.iconst 1, 1) := by decide +kernel
theorem dL_serial_905 : decode cL_serial 905 = .ok (.if_icmp .ne 129, 3) := by decide +kernel
theorem dL_serial_908 : decode cL_serial 908 = .ok (.aload_n 1, 1) := by decide +kernel
theorem dL_serial_909 : decode cL_serial 909 = .ok (.bipush 9, 2) := by decide +kernel
theorem dL_serial_911 : decode cL_serial 911 = .ok (.iconst 0, 1) := by decide +kernel
theorem dL_serial_912 : decode cL_serial 912 = .ok (.iconst 0, 1) := by decide +kernel
theorem dL_serial_913 : decode cL_serial 913 = .ok (.iconst 0, 1) := by decide +kernel
theorem dL_serial_914 : decode cL_serial 914 = .ok (.invokestatic 87, 3) := by decide +kernel
theorem dL_serial_917 : decode cL_serial 917 = .ok (.bipush (-12), 2) := by decide +kernel
theorem dL_serial_919 : decode cL_serial 919 = .ok (.if_icmp .ne 115, 3) := by decide +kernel
theorem dL_serial_922 : decode cL_serial 922 = .ok (.aload_n 1, 1) := by decide +kernel
theorem dL_serial_923 : decode cL_serial 923 = .ok (.invokevirtual 109, 3) := by decide +kernel
theorem dL_serial_926 : decode cL_serial 926 = .ok (.iconst 1, 1) := by decide +kernel
theorem dL_serial_927 : decode cL_serial 927 = .ok (.if_icmp .ne 107, 3) := by decide +kernel
theorem dL_serial_930 : decode cL_serial 930 = .ok (.aload_n 1, 1) := by decide +kernel
theorem dL_serial_931 : decode cL_serial 931 = .ok (.bipush 9, 2) := by decide +kernel
theorem dL_serial_933 : decode cL_serial 933 = .ok (.iconst 0, 1) := by decide +kernel
theorem dL_serial_934 : decode cL_serial 934 = .ok (.iconst 0, 1) := by decide +kernel
theorem dL_serial_935 : decode cL_serial 935 = .ok (.iconst 0, 1) := by decide +kernel
theorem dL_serial_936 : decode cL_serial 936 = .ok (.invokestatic 87, 3) := by decide +kernel
theorem dL_serial_939 : decode cL_serial 939 = .ok (.bipush (-11), 2) := by decide +kernel
theorem dL_serial_941 : decode cL_serial 941 = .ok (.if_icmp .ne 93, 3) := by decide +kernel
theorem dL_serial_944 : decode cL_serial 944 = .ok (.aload_n 1, 1) := by decide +kernel
theorem dL_serial_945 : decode cL_serial 945 = .ok (.bipush 19, 2) := by decide +kernel
theorem dL_serial_947 : decode cL_serial 947 = .ok (.bipush 6, 2) := by decide +kernel
theorem dL_serial_949 : decode cL_serial 949 = .ok (.invokevirtual 48, 3) := by decide +kernel
theorem dL_serial_952 : decode cL_serial 952 = .ok (.bipush 19, 2) := by decide +kernel
theorem dL_serial_954 : decode cL_serial 954 = .ok (.if_icmp .ne 80, 3) := by decide +kernel
theorem dL_serial_957 : decode cL_serial 957 = .ok (.aload_n 1, 1) := by decide +kernel
theorem dL_serial_958 : decode cL_serial 958 = .ok (.iconst 0, 1) := by decide +kernel
theorem dL_serial_959 : decode cL_serial 959 = .ok (.invokevirtual 72, 3) := by decide +kernel
theorem dL_serial_962 : decode cL_serial 962 = .ok (.bipush 19, 2) := by decide +kernel
theorem dL_serial_964 : decode cL_serial 964 = .ok (.if_icmp .ne 70, 3) := by decide +kernel
theorem dL_serial_967 : decode cL_serial 967 = .ok (.aload_n 1, 1) := by decide +kernel
theorem dL_serial_968 : decode cL_serial 968 = .ok (.iconst 0, 1) := by decide +kernel
theorem dL_serial_969 : decode cL_serial 969 = .ok (.bipush 19, 2) := by decide +kernel
theorem dL_serial_971 : decode cL_serial 971 = .ok (.invokevirtual 22, 3) := by decide +kernel
theorem dL_serial_974 : decode cL_serial 974 = .ok (.iconst 4, 1) := by decide +kernel
theorem dL_serial_975 : decode cL_serial 975 = .ok (.if_icmp .ne 59, 3) := by decide +kernel
theorem dL_serial_978 : decode cL_serial 978 = .ok (.aload_n 1, 1) := by decide +kernel
theorem dL_serial_979 : decode cL_serial 979 = .ok (.iconst 1, 1) := by decide +kernel
theorem dL_serial_980 : decode cL_serial 980 = .ok (.bipush 20, 2) := by decide +kernel
theorem dL_serial_982 : decode cL_serial 982 = .ok (.invokevirtual 22, 3) := by decide +kernel
theorem dL_serial_985 : decode cL_serial 985 = .ok (.bipush 10, 2) := by decide +kernel
theorem dL_serial_987 : decode cL_serial 987 = .ok (.if_icmp .ne 47, 3) := by decide +kernel
theorem dL_serial_990 : decode cL_serial 990 = .ok (.aload_n 1, 1) := by decide +kernel
theorem dL_serial_991 : decode cL_serial 991 = .ok (.iconst 3, 1) := by decide +kernel
theorem dL_serial_992 : decode cL_serial 992 = .ok (.bipush 19, 2) := by decide +kernel
theorem dL_serial_994 : decode cL_serial 994 = .ok (.invokevirtual 26, 3) := by decide +kernel
theorem dL_serial_997 : decode cL_serial 997 = .ok (.bipush 19, 2) := by decide +kernel
theorem dL_serial_999 : decode cL_serial 999 = .ok (.if_icmp .ne 35, 3) := by decide +kernel
theorem dL_serial_1002 : decode cL_serial 1002 = .ok (.aload_n 1, 1) := by decide +kernel
theorem dL_serial_1003 : decode cL_serial 1003 = .ok (.iconst 3, 1) := by decide +kernel
theorem dL_serial_1004 : decode cL_serial 1004 = .ok (.iconst 4, 1) := by decide +kernel
theorem dL_serial_1005 : decode cL_serial 1005 = .ok (.invokevirtual 54, 3) := by decide +kernel
theorem dL_serial_1008 : decode cL_serial 1008 = .ok (.bipush 39, 2) := by decide +kernel
theorem dL_serial_1010 : decode cL_serial 1010 = .ok (.if_icmp .ne 24, 3) := by decide +kernel
theorem dL_serial_1013 : decode cL_serial 1013 = .ok (.aload_n 1, 1) := by decide +kernel
theorem dL_serial_1014 : decode cL_serial 1014 = .ok (.iconst 3, 1) := by decide +kernel
theorem dL_serial_1015 : decode cL_serial 1015 = .ok (.iconst 3, 1) := by decide +kernel
theorem dL_serial_1016 : decode cL_serial 1016 = .ok (.invokevirtual 54, 3) := by decide +kernel
theorem dL_serial_1019 : decode cL_serial 1019 = .ok (.iconst 1, 1) := by decide +kernel
theorem dL_serial_1020 : decode cL_serial 1020 = .ok (.if_icmp .ne 14, 3) := by decide +kernel
theorem dL_serial_1023 : decode cL_serial 1023 = .ok (.aload_n 1, 1) := by decide +kernel
theorem dL_serial_1024 : decode cL_serial 1024 = .ok (.iconst 0, 1) := by decide +kernel
theorem dL_serial_1025 : decode cL_serial 1025 = .ok (.iconst 2, 1) := by decide +kernel
theorem dL_serial_1026 : decode cL_serial 1026 = .ok (.invokevirtual 57, 3) := by decide +kernel
theorem dL_serial_1029 : decode cL_serial 1029 = .ok (.bipush 20, 2) := by decide +kernel
theorem dL_serial_1031 : decode cL_serial 1031 = .ok (.if_icmp .eq 5, 3) := by decide +kernel
theorem dL_serial_1034 : decode cL_serial 1034 = .ok (.iconst 0, 1) := by decide +kernel
theorem dL_serial_1035 : decode cL_serial 1035 = .ok (.ireturn, 1) := by decide +kernel
theorem dL_serial_1036 : decode cL_serial 1036 = .ok (.aload_n 1, 1) := by decide +kernel
theorem dL_serial_1037 : decode cL_serial 1037 = .ok (.invokestatic 103, 3) := by decide +kernel
theorem dL_serial_1040 : decode cL_serial 1040 = .ok (.ireturn, 1) := by decide +kernel
theorem dL_types_0 : decode cL_types 0 = .ok (.iconst 1, 1) := by decide +kernel
theorem dL_types_1 : decode cL_types 1 = .ok (.istore_n 3, 1) := by decide +kernel
theorem dL_types_2 : decode cL_types 2 = .ok (.bipush 56, 2) := by decide +kernel
theorem dL_types_4 : decode cL_types 4 = .ok (.istore 4, 2) := by decide +kernel
theorem dL_types_6 : decode cL_types 6 = .ok (.iload 4, 2) := by decide +kernel
theorem dL_types_8 : decode cL_types 8 = .ok (.ifCond .lt 44, 3) := by decide +kernel
theorem dL_types_11 : decode cL_types 11 = .ok (.lload_n 1, 1) := by decide +kernel
theorem dL_types_12 : decode cL_types 12 = .ok (.iload 4, 2) := by decide +kernel
theorem dL_types_14 : decode cL_types 14 = .ok (.lshr, 1) := by decide +kernel
theorem dL_types_15 : decode cL_types 15 = .ok (.ldc2_w 112, 3) := by decide +kernel
theorem dL_types_18 : decode cL_types 18 = .ok (.land, 1) := by decide +kernel
theorem dL_types_19 : decode cL_types 19 = .ok (.l2i, 1) := by decide +kernel
theorem dL_types_20 : decode cL_types 20 = .ok (.istore 5, 2) := by decide +kernel
theorem dL_types_22 : decode cL_types 22 = .ok (.iload_n 3, 1) := by decide +kernel
theorem dL_types_23 : decode cL_types 23 = .ok (.ifCond .eq 21, 3) := by decide +kernel
theorem dL_types_26 : decode cL_types 26 = .ok (.iload 5, 2) := by decide +kernel
theorem dL_types_28 : decode cL_types 28 = .ok (.ifCond .eq 12, 3) := by decide +kernel
theorem dL_types_31 : decode cL_types 31 = .ok (.aload_n 0, 1) := by decide +kernel
theorem dL_types_32 : decode cL_types 32 = .ok (.iload 5, 2) := by decide +kernel
theorem dL_types_34 : decode cL_types 34 = .ok (.invokevirtual 39, 3) := by decide +kernel
theorem dL_types_37 : decode cL_types 37 = .ok (.ifCond .le 7, 3) := by decide +kernel
theorem dL_types_40 : decode cL_types 40 = .ok (.iconst 1, 1) := by decide +kernel
theorem dL_types_41 : decode cL_types 41 = .ok (.goto 4, 3) := by decide +kernel
theorem dL_types_44 : decode cL_types 44 = .ok (.iconst 0, 1) := by decide +kernel
theorem dL_types_45 : decode cL_types 45 = .ok (.istore_n 3, 1) := by decide +kernel
theorem dL_types_46 : decode cL_types 46 = .ok (.iinc 4 (-8), 3) := by decide +kernel
theorem dL_types_49 : decode cL_types 49 = .ok (.goto (-43), 3) := by decide +kernel
theorem dL_types_52 : decode cL_types 52 = .ok (.iload_n 3, 1) := by decide +kernel
theorem dL_types_53 : decode cL_types 53 = .ok (.ireturn, 1) := by decide +kernel
theorem dL_errorOf_0 : decode cL_errorOf 0 = .ok (.new 10, 3) := by decide +kernel
theorem dL_errorOf_3 : decode cL_errorOf 3 = .ok (.dup, 1) := by decide +kernel
theorem dL_errorOf_4 : decode cL_errorOf 4 = .ok (.invokespecial 98, 3) := by decide +kernel
theorem dL_errorOf_7 : decode cL_errorOf 7 = .ok (.astore 4, 2) := by decide +kernel
theorem dL_errorOf_9 : decode cL_errorOf 9 = .ok (.aload 4, 2) := by decide +kernel
theorem dL_errorOf_11 : decode cL_errorOf 11 = .ok (.lload_n 0, 1) := by decide +kernel
theorem dL_errorOf_12 : decode cL_errorOf 12 = .ok (.invokestatic 114, 3) := by decide +kernel
theorem dL_errorOf_15 : decode cL_errorOf 15 = .ok (.ifCond .eq 12, 3) := by decide +kernel
theorem dL_errorOf_18 : decode cL_errorOf 18 = .ok (.aload 4, 2) := by decide +kernel
theorem dL_errorOf_20 : decode cL_errorOf 20 = .ok (.lload_n 2, 1) := by decide +kernel
theorem dL_errorOf_21 : decode cL_errorOf 21 = .ok (.invokestatic 114, 3) := by decide +kernel
theorem dL_errorOf_24 : decode cL_errorOf 24 = .ok (.ifCond .ne 6, 3) := by decide +kernel
theorem dL_errorOf_27 : decode cL_errorOf 27 = .ok (.bipush (-99), 2) := by decide +kernel
theorem dL_errorOf_29 : decode cL_errorOf 29 = .ok (.ireturn, 1) := by decide +kernel
theorem dL_errorOf_30 : decode cL_errorOf 30 = .ok (.aload 4, 2) := by decide +kernel
theorem dL_errorOf_32 : decode cL_errorOf 32 = .ok (.invokevirtual 118, 3) := by decide +kernel
theorem dL_errorOf_35 : decode cL_errorOf 35 = .ok (.istore 5, 2) := by decide +kernel
theorem dL_errorOf_37 : decode cL_errorOf 37 = .ok (.aload 4, 2) := by decide +kernel
theorem dL_errorOf_39 : decode cL_errorOf 39 = .ok (.bipush 9, 2) := by decide +kernel
theorem dL_errorOf_41 : decode cL_errorOf 41 = .ok (.iconst 0, 1) := by decide +kernel
theorem dL_errorOf_42 : decode cL_errorOf 42 = .ok (.iconst 0, 1) := by decide +kernel
theorem dL_errorOf_43 : decode cL_errorOf 43 = .ok (.iconst 0, 1) := by decide +kernel
theorem dL_errorOf_44 : decode cL_errorOf 44 = .ok (.invokestatic 87, 3) := by decide +kernel
theorem dL_errorOf_47 : decode cL_errorOf 47 = .ok (.istore 6, 2) := by decide +kernel
theorem dL_errorOf_49 : decode cL_errorOf 49 = .ok (.iconst 2, 1) := by decide +kernel
theorem dL_errorOf_50 : decode cL_errorOf 50 = .ok (.iload 5, 2) := by decide +kernel
theorem dL_errorOf_52 : decode cL_errorOf 52 = .ok (.imul, 1) := by decide +kernel
theorem dL_errorOf_53 : decode cL_errorOf 53 = .ok (.iload 6, 2) := by decide +kernel
theorem dL_errorOf_55 : decode cL_errorOf 55 = .ok (.ifCond .le 26, 3) := by decide +kernel
theorem dL_errorOf_58 : decode cL_errorOf 58 = .ok (.aload 4, 2) := by decide +kernel
theorem dL_errorOf_60 : decode cL_errorOf 60 = .ok (.iconst 0, 1) := by decide +kernel
theorem dL_errorOf_61 : decode cL_errorOf 61 = .ok (.invokevirtual 60, 3) := by decide +kernel
theorem dL_errorOf_64 : decode cL_errorOf 64 = .ok (.iload 6, 2) := by decide +kernel
theorem dL_errorOf_66 : decode cL_errorOf 66 = .ok (.if_icmp .ne 15, 3) := by decide +kernel
theorem dL_errorOf_69 : decode cL_errorOf 69 = .ok (.aload 4, 2) := by decide +kernel
theorem dL_errorOf_71 : decode cL_errorOf 71 = .ok (.invokevirtual 109, 3) := by decide +kernel
theorem dL_errorOf_74 : decode cL_errorOf 74 = .ok (.ifCond .ne 7, 3) := by decide +kernel
theorem dL_errorOf_77 : decode cL_errorOf 77 = .ok (.iconst 1, 1) := by decide +kernel
theorem dL_errorOf_78 : decode cL_errorOf 78 = .ok (.goto 4, 3) := by decide +kernel
theorem dL_errorOf_81 : decode cL_errorOf 81 = .ok (.iconst 0, 1) := by decide +kernel
theorem dL_errorOf_82 : decode cL_errorOf 82 = .ok (.iadd, 1) := by decide +kernel
theorem dL_errorOf_83 : decode cL_errorOf 83 = .ok (.ireturn, 1) := by decide +kernel
theorem dL_texts_0 : decode cL_texts 0 = .ok (.lconst 0, 1) := by decide +kernel
theorem dL_texts_1 : decode cL_texts 1 = .ok (.lconst 0, 1) := by decide +kernel
theorem dL_texts_2 : decode cL_texts 2 = .ok (.invokestatic 121, 3) := by decide +kernel
theorem dL_texts_5 : decode cL_texts 5 = .ok (.ifCond .ne 96, 3) := by decide +kernel
theorem dL_texts_8 : decode cL_texts 8 = .ok (.ldc2_w 125, 3) := by decide +kernel
theorem dL_texts_11 : decode cL_texts 11 = .ok (.lconst 0, 1) := by decide +kernel
theorem dL_texts_12 : decode cL_texts 12 = .ok (.invokestatic 121, 3) := by decide +kernel
theorem dL_texts_15 : decode cL_texts 15 = .ok (.iconst 2, 1) := by decide +kernel
theorem dL_texts_16 : decode cL_texts 16 = .ok (.if_icmp .ne 85, 3) := by decide +kernel
theorem dL_texts_19 : decode cL_texts 19 = .ok (.ldc2_w 127, 3) := by decide +kernel
theorem dL_texts_22 : decode cL_texts 22 = .ok (.lconst 0, 1) := by decide +kernel
theorem dL_texts_23 : decode cL_texts 23 = .ok (.invokestatic 121, 3) := by decide +kernel
theorem dL_texts_26 : decode cL_texts 26 = .ok (.iconst 4, 1) := by decide +kernel
theorem dL_texts_27 : decode cL_texts 27 = .ok (.if_icmp .ne 74, 3) := by decide +kernel
theorem dL_texts_30 : decode cL_texts 30 = .ok (.ldc2_w 129, 3) := by decide +kernel
theorem dL_texts_33 : decode cL_texts 33 = .ok (.lconst 0, 1) := by decide +kernel
theorem dL_texts_34 : decode cL_texts 34 = .ok (.invokestatic 121, 3) := by decide +kernel
theorem dL_texts_37 : decode cL_texts 37 = .ok (.bipush 7, 2) := by decide +kernel
theorem dL_texts_39 : decode cL_texts 39 = .ok (.if_icmp .ne 62, 3) := by decide +kernel
theorem dL_texts_42 : decode cL_texts 42 = .ok (.ldc2_w 131, 3) := by decide +kernel
theorem dL_texts_45 : decode cL_texts 45 = .ok (.lconst 0, 1) := by decide +kernel
theorem dL_texts_46 : decode cL_texts 46 = .ok (.invokestatic 121, 3) := by decide +kernel
theorem dL_texts_49 : decode cL_texts 49 = .ok (.bipush 10, 2) := by decide +kernel
theorem dL_texts_51 : decode cL_texts 51 = .ok (.if_icmp .ne 50, 3) := by decide +kernel
theorem dL_texts_54 : decode cL_texts 54 = .ok (.ldc2_w 133, 3) := by decide +kernel
theorem dL_texts_57 : decode cL_texts 57 = .ok (.lconst 0, 1) := by decide +kernel
theorem dL_texts_58 : decode cL_texts 58 = .ok (.invokestatic 121, 3) := by decide +kernel
theorem dL_texts_61 : decode cL_texts 61 = .ok (.iconst 4, 1) := by decide +kernel
theorem dL_texts_62 : decode cL_texts 62 = .ok (.if_icmp .ne 39, 3) := by decide +kernel
theorem dL_texts_65 : decode cL_texts 65 = .ok (.ldc2_w 135, 3) := by decide +kernel
theorem dL_texts_68 : decode cL_texts 68 = .ok (.lconst 0, 1) := by decide +kernel
theorem dL_texts_69 : decode cL_texts 69 = .ok (.invokestatic 121, 3) := by decide +kernel
theorem dL_texts_72 : decode cL_texts 72 = .ok (.bipush 8, 2) := by decide +kernel
theorem dL_texts_74 : decode cL_texts 74 = .ok (.if_icmp .ne 27, 3) := by decide +kernel
theorem dL_texts_77 : decode cL_texts 77 = .ok (.ldc2_w 137, 3) := by decide +kernel
theorem dL_texts_80 : decode cL_texts 80 = .ok (.lconst 0, 1) := by decide +kernel
theorem dL_texts_81 : decode cL_texts 81 = .ok (.invokestatic 121, 3) := by decide +kernel
theorem dL_texts_84 : decode cL_texts 84 = .ok (.bipush 6, 2) := by decide +kernel
theorem dL_texts_86 : decode cL_texts 86 = .ok (.if_icmp .ne 15, 3) := by decide +kernel
theorem dL_texts_89 : decode cL_texts 89 = .ok (.ldc2_w 139, 3) := by decide +kernel
theorem dL_texts_92 : decode cL_texts 92 = .ok (.lconst 0, 1) := by decide +kernel
theorem dL_texts_93 : decode cL_texts 93 = .ok (.invokestatic 121, 3) := by decide +kernel
theorem dL_texts_96 : decode cL_texts 96 = .ok (.bipush 7, 2) := by decide +kernel
theorem dL_texts_98 : decode cL_texts 98 = .ok (.if_icmp .eq 5, 3) := by decide +kernel
theorem dL_texts_101 : decode cL_texts 101 = .ok (.iconst 0, 1) := by decide +kernel
theorem dL_texts_102 : decode cL_texts 102 = .ok (.ireturn, 1) := by decide +kernel
theorem dL_texts_103 : decode cL_texts 103 = .ok (.ldc2_w 141, 3) := by decide +kernel
theorem dL_texts_106 : decode cL_texts 106 = .ok (.lconst 0, 1) := by decide +kernel
theorem dL_texts_107 : decode cL_texts 107 = .ok (.invokestatic 121, 3) := by decide +kernel
theorem dL_texts_110 : decode cL_texts 110 = .ok (.ifCond .ne 95, 3) := by decide +kernel
theorem dL_texts_113 : decode cL_texts 113 = .ok (.ldc2_w 143, 3) := by decide +kernel
theorem dL_texts_116 : decode cL_texts 116 = .ok (.lconst 0, 1) := by decide +kernel
theorem dL_texts_117 : decode cL_texts 117 = .ok (.invokestatic 121, 3) := by decide +kernel
theorem dL_texts_120 : decode cL_texts 120 = .ok (.iconst 4, 1) := by decide +kernel
theorem dL_texts_121 : decode cL_texts 121 = .ok (.if_icmp .ne 84, 3) := by decide +kernel
theorem dL_texts_124 : decode cL_texts 124 = .ok (.ldc2_w 145, 3) := by decide +kernel
theorem dL_texts_127 : decode cL_texts 127 = .ok (.lconst 0, 1) := by decide +kernel
theorem dL_texts_128 : decode cL_texts 128 = .ok (.invokestatic 121, 3) := by decide +kernel
theorem dL_texts_131 : decode cL_texts 131 = .ok (.iconst 2, 1) := by decide +kernel
theorem dL_texts_132 : decode cL_texts 132 = .ok (.if_icmp .ne 73, 3) := by decide +kernel
theorem dL_texts_135 : decode cL_texts 135 = .ok (.ldc2_w 147, 3) := by decide +kernel
theorem dL_texts_138 : decode cL_texts 138 = .ok (.lconst 0, 1) := by decide +kernel
theorem dL_texts_139 : decode cL_texts 139 = .ok (.invokestatic 121, 3) := by decide +kernel
theorem dL_texts_142 : decode cL_texts 142 = .ok (.ifCond .ne 63, 3) := by decide +kernel
theorem dL_texts_145 : decode cL_texts 145 = .ok (.ldc2_w 149, 3) := by decide +kernel
theorem dL_texts_148 : decode cL_texts 148 = .ok (.lconst 0, 1) := by decide +kernel
theorem dL_texts_149 : decode cL_texts 149 = .ok (.invokestatic 121, 3) := by decide +kernel
theorem dL_texts_152 : decode cL_texts 152 = .ok (.iconst 4, 1) := by decide +kernel
theorem dL_texts_153 : decode cL_texts 153 = .ok (.if_icmp .ne 52, 3) := by decide +kernel
theorem dL_texts_156 : decode cL_texts 156 = .ok (.ldc2_w 151, 3) := by decide +kernel
theorem dL_texts_159 : decode cL_texts 159 = .ok (.ldc2_w 153, 3) := by decide +kernel
theorem dL_texts_162 : decode cL_texts 162 = .ok (.invokestatic 121, 3) := by decide +kernel
theorem dL_texts_165 : decode cL_texts 165 = .ok (.bipush 23, 2) := by decide +kernel
theorem dL_texts_167 : decode cL_texts 167 = .ok (.if_icmp .ne 38, 3) := by decide +kernel
theorem dL_texts_170 : decode cL_texts 170 = .ok (.ldc2_w 155, 3) := by decide +kernel
theorem dL_texts_173 : decode cL_texts 173 = .ok (.lconst 0, 1) := by decide +kernel
theorem dL_texts_174 : decode cL_texts 174 = .ok (.invokestatic 121, 3) := by decide +kernel
theorem dL_texts_177 : decode cL_texts 177 = .ok (.bipush 10, 2) := by decide +kernel
theorem dL_texts_179 : decode cL_texts 179 = .ok (.if_icmp .ne 26, 3) := by decide +kernel
theorem dL_texts_182 : decode cL_texts 182 = .ok (.ldc2_w 157, 3) := by decide +kernel
theorem dL_texts_185 : decode cL_texts 185 = .ok (.lconst 0, 1) := by decide +kernel
theorem dL_texts_186 : decode cL_texts 186 = .ok (.invokestatic 121, 3) := by decide +kernel
theorem dL_texts_189 : decode cL_texts 189 = .ok (.bipush 6, 2) := by decide +kernel
theorem dL_texts_191 : decode cL_texts 191 = .ok (.if_icmp .ne 14, 3) := by decide +kernel
theorem dL_texts_194 : decode cL_texts 194 = .ok (.ldc2_w 159, 3) := by decide +kernel
theorem dL_texts_197 : decode cL_texts 197 = .ok (.lconst 0, 1) := by decide +kernel
theorem dL_texts_198 : decode cL_texts 198 = .ok (.invokestatic 121, 3) := by decide +kernel
theorem dL_texts_201 : decode cL_texts 201 = .ok (.iconst 4, 1) := by decide +kernel
theorem dL_texts_202 : decode cL_texts 202 = .ok (.if_icmp .eq 5, 3) := by decide +kernel
theorem dL_texts_205 : decode cL_texts 205 = .ok (.iconst 0, 1) := by decide +kernel
theorem dL_texts_206 : decode cL_texts 206 = .ok (.ireturn, 1) := by decide +kernel
theorem dL_texts_207 : decode cL_texts 207 = .ok (.new 10, 3) := by decide +kernel
theorem dL_texts_210 : decode cL_texts 210 = .ok (.dup, 1) := by decide +kernel
theorem dL_texts_211 : decode cL_texts 211 = .ok (.invokespecial 98, 3) := by decide +kernel
theorem dL_texts_214 : decode cL_texts 214 = .ok (.astore_n 0, 1) := by decide +kernel
theorem dL_texts_215 : decode cL_texts 215 = .ok (.aload_n 0, 1) := by decide +kernel
theorem dL_texts_216 : decode cL_texts 216 = .ok (.ldc2_w 161, 3) := by decide +kernel
theorem dL_texts_219 : decode cL_texts 219 = .ok (.invokestatic 114, 3) := by decide +kernel
theorem dL_texts_222 : decode cL_texts 222 = .ok (.ifCond .eq 119, 3) := by decide +kernel
theorem dL_texts_225 : decode cL_texts 225 = .ok (.aload_n 0, 1) := by decide +kernel
theorem dL_texts_226 : decode cL_texts 226 = .ok (.ldc2_w 163, 3) := by decide +kernel
theorem dL_texts_229 : decode cL_texts 229 = .ok (.invokestatic 114, 3) := by decide +kernel
theorem dL_texts_232 : decode cL_texts 232 = .ok (.ifCond .eq 109, 3) := by decide +kernel
theorem dL_texts_235 : decode cL_texts 235 = .ok (.aload_n 0, 1) := by decide +kernel
theorem dL_texts_236 : decode cL_texts 236 = .ok (.invokevirtual 42, 3) := by decide +kernel
theorem dL_texts_239 : decode cL_texts 239 = .ok (.iconst 3, 1) := by decide +kernel
theorem dL_texts_240 : decode cL_texts 240 = .ok (.if_icmp .ne 101, 3) := by decide +kernel
theorem dL_texts_243 : decode cL_texts 243 = .ok (.aload_n 0, 1) := by decide +kernel
theorem dL_texts_244 : decode cL_texts 244 = .ok (.bipush 6, 2) := by decide +kernel
theorem dL_texts_246 : decode cL_texts 246 = .ok (.invokevirtual 60, 3) := by decide +kernel
theorem dL_texts_249 : decode cL_texts 249 = .ok (.iconst 1, 1) := by decide +kernel
theorem dL_texts_250 : decode cL_texts 250 = .ok (.if_icmp .ne 91, 3) := by decide +kernel
theorem dL_texts_253 : decode cL_texts 253 = .ok (.aload_n 0, 1) := by decide +kernel
theorem dL_texts_254 : decode cL_texts 254 = .ok (.iconst 0, 1) := by decide +kernel
theorem dL_texts_255 : decode cL_texts 255 = .ok (.iconst 0, 1) := by decide +kernel
theorem dL_texts_256 : decode cL_texts 256 = .ok (.invokevirtual 48, 3) := by decide +kernel
theorem dL_texts_259 : decode cL_texts 259 = .ok (.iconst 5, 1) := by decide +kernel
theorem dL_texts_260 : decode cL_texts 260 = .ok (.if_icmp .ne 81, 3) := by decide +kernel
theorem dL_texts_263 : decode cL_texts 263 = .ok (.aload_n 0, 1) := by decide +kernel
theorem dL_texts_264 : decode cL_texts 264 = .ok (.iconst 0, 1) := by decide +kernel
theorem dL_texts_265 : decode cL_texts 265 = .ok (.iconst 1, 1) := by decide +kernel
theorem dL_texts_266 : decode cL_texts 266 = .ok (.invokevirtual 48, 3) := by decide +kernel
theorem dL_texts_269 : decode cL_texts 269 = .ok (.iconst 2, 1) := by decide +kernel
theorem dL_texts_270 : decode cL_texts 270 = .ok (.if_icmp .ne 71, 3) := by decide +kernel
theorem dL_texts_273 : decode cL_texts 273 = .ok (.aload_n 0, 1) := by decide +kernel
theorem dL_texts_274 : decode cL_texts 274 = .ok (.iconst 0, 1) := by decide +kernel
theorem dL_texts_275 : decode cL_texts 275 = .ok (.iconst 2, 1) := by decide +kernel
theorem dL_texts_276 : decode cL_texts 276 = .ok (.invokevirtual 48, 3) := by decide +kernel
theorem dL_texts_279 : decode cL_texts 279 = .ok (.bipush 7, 2) := by decide +kernel
theorem dL_texts_281 : decode cL_texts 281 = .ok (.if_icmp .ne 60, 3) := by decide +kernel
theorem dL_texts_284 : decode cL_texts 284 = .ok (.aload_n 0, 1) := by decide +kernel
theorem dL_texts_285 : decode cL_texts 285 = .ok (.iconst 1, 1) := by decide +kernel
theorem dL_texts_286 : decode cL_texts 286 = .ok (.iconst 0, 1) := by decide +kernel
theorem dL_texts_287 : decode cL_texts 287 = .ok (.invokevirtual 48, 3) := by decide +kernel
theorem dL_texts_290 : decode cL_texts 290 = .ok (.bipush 32, 2) := by decide +kernel
theorem dL_texts_292 : decode cL_texts 292 = .ok (.if_icmp .ne 49, 3) := by decide +kernel
theorem dL_texts_295 : decode cL_texts 295 = .ok (.aload_n 0, 1) := by decide +kernel
theorem dL_texts_296 : decode cL_texts 296 = .ok (.iconst 1, 1) := by decide +kernel
theorem dL_texts_297 : decode cL_texts 297 = .ok (.iconst 1, 1) := by decide +kernel
theorem dL_texts_298 : decode cL_texts 298 = .ok (.invokevirtual 48, 3) := by decide +kernel
theorem dL_texts_301 : decode cL_texts 301 = .ok (.iconst (-1), 1) := by decide +kernel
theorem dL_texts_302 : decode cL_texts 302 = .ok (.if_icmp .ne 39, 3) := by decide +kernel
theorem dL_texts_305 : decode cL_texts 305 = .ok (.aload_n 0, 1) := by decide +kernel
theorem dL_texts_306 : decode cL_texts 306 = .ok (.iconst 1, 1) := by decide +kernel
theorem dL_texts_307 : decode cL_texts 307 = .ok (.iconst 2, 1) := by decide +kernel
theorem dL_texts_308 : decode cL_texts 308 = .ok (.invokevirtual 48, 3) := by decide +kernel
theorem dL_texts_311 : decode cL_texts 311 = .ok (.bipush 10, 2) := by decide +kernel
theorem dL_texts_313 : decode cL_texts 313 = .ok (.if_icmp .ne 28, 3) := by decide +kernel
theorem dL_texts_316 : decode cL_texts 316 = .ok (.aload_n 0, 1) := by decide +kernel
theorem dL_texts_317 : decode cL_texts 317 = .ok (.iconst 2, 1) := by decide +kernel
theorem dL_texts_318 : decode cL_texts 318 = .ok (.iconst 1, 1) := by decide +kernel
theorem dL_texts_319 : decode cL_texts 319 = .ok (.invokevirtual 48, 3) := by decide +kernel
theorem dL_texts_322 : decode cL_texts 322 = .ok (.iconst 1, 1) := by decide +kernel
theorem dL_texts_323 : decode cL_texts 323 = .ok (.if_icmp .ne 18, 3) := by decide +kernel
theorem dL_texts_326 : decode cL_texts 326 = .ok (.aload_n 0, 1) := by decide +kernel
theorem dL_texts_327 : decode cL_texts 327 = .ok (.invokevirtual 45, 3) := by decide +kernel
theorem dL_texts_330 : decode cL_texts 330 = .ok (.ifCond .ne 11, 3) := by decide +kernel
theorem dL_texts_333 : decode cL_texts 333 = .ok (.aload_n 0, 1) := by decide +kernel
theorem dL_texts_334 : decode cL_texts 334 = .ok (.iconst 0, 1) := by decide +kernel
theorem dL_texts_335 : decode cL_texts 335 = .ok (.invokevirtual 60, 3) := by decide +kernel
theorem dL_texts_338 : decode cL_texts 338 = .ok (.ifCond .eq 5, 3) := by decide +kernel
theorem dL_texts_341 : decode cL_texts 341 = .ok (.iconst 0, 1) := by decide +kernel
theorem dL_texts_342 : decode cL_texts 342 = .ok (.ireturn, 1) := by decide +kernel
theorem dL_texts_343 : decode cL_texts 343 = .ok (.iconst 0, 1) := by decide +kernel
theorem dL_texts_344 : decode cL_texts 344 = .ok (.istore_n 1, 1) := by decide +kernel
theorem dL_texts_345 : decode cL_texts 345 = .ok (.iload_n 1, 1) := by decide +kernel
theorem dL_texts_346 : decode cL_texts 346 = .ok (.bipush 60, 2) := by decide +kernel
theorem dL_texts_348 : decode cL_texts 348 = .ok (.if_icmp .ge 34, 3) := by decide +kernel
theorem dL_texts_351 : decode cL_texts 351 = .ok (.aload_n 0, 1) := by decide +kernel
theorem dL_texts_352 : decode cL_texts 352 = .ok (.iload_n 1, 1) := by decide +kernel
theorem dL_texts_353 : decode cL_texts 353 = .ok (.iconst 2, 1) := by decide +kernel
theorem dL_texts_354 : decode cL_texts 354 = .ok (.irem, 1) := by decide +kernel
theorem dL_texts_355 : decode cL_texts 355 = .ok (.ifCond .ne 8, 3) := by decide +kernel
theorem dL_texts_358 : decode cL_texts 358 = .ok (.bipush 48, 2) := by decide +kernel
theorem dL_texts_360 : decode cL_texts 360 = .ok (.goto 5, 3) := by decide +kernel
theorem dL_texts_363 : decode cL_texts 363 = .ok (.bipush 59, 2) := by decide +kernel
theorem dL_texts_365 : decode cL_texts 365 = .ok (.invokevirtual 39, 3) := by decide +kernel
theorem dL_texts_368 : decode cL_texts 368 = .ok (.iload_n 1, 1) := by decide +kernel
theorem dL_texts_369 : decode cL_texts 369 = .ok (.iconst 1, 1) := by decide +kernel
theorem dL_texts_370 : decode cL_texts 370 = .ok (.iadd, 1) := by decide +kernel
theorem dL_texts_371 : decode cL_texts 371 = .ok (.if_icmp .eq 5, 3) := by decide +kernel
theorem dL_texts_374 : decode cL_texts 374 = .ok (.iconst 0, 1) := by decide +kernel
theorem dL_texts_375 : decode cL_texts 375 = .ok (.ireturn, 1) := by decide +kernel
theorem dL_texts_376 : decode cL_texts 376 = .ok (.iinc 1 1, 3) := by decide +kernel
theorem dL_texts_379 : decode cL_texts 379 = .ok (.goto (-34), 3) := by decide +kernel
theorem dL_texts_382 : decode cL_texts 382 = .ok (.aload_n 0, 1) := by decide +kernel
theorem dL_texts_383 : decode cL_texts 383 = .ok (.bipush 8, 2) := by decide +kernel
theorem dL_texts_385 : decode cL_texts 385 = .ok (.bipush 48, 2) := by decide +kernel
theorem dL_texts_387 : decode cL_texts 387 = .ok (.iconst 0, 1) := by decide +kernel
theorem dL_texts_388 : decode cL_texts 388 = .ok (.iconst 0, 1) := by decide +kernel
theorem dL_texts_389 : decode cL_texts 389 = .ok (.invokestatic 87, 3) := by decide +kernel
theorem dL_texts_392 : decode cL_texts 392 = .ok (.bipush (-12), 2) := by decide +kernel
theorem dL_texts_394 : decode cL_texts 394 = .ok (.if_icmp .ne 39, 3) := by decide +kernel
theorem dL_texts_397 : decode cL_texts 397 = .ok (.aload_n 0, 1) := by decide +kernel
theorem dL_texts_398 : decode cL_texts 398 = .ok (.invokevirtual 118, 3) := by decide +kernel
theorem dL_texts_401 : decode cL_texts 401 = .ok (.bipush 60, 2) := by decide +kernel
theorem dL_texts_403 : decode cL_texts 403 = .ok (.if_icmp .ne 30, 3) := by decide +kernel
theorem dL_texts_406 : decode cL_texts 406 = .ok (.aload_n 0, 1) := by decide +kernel
theorem dL_texts_407 : decode cL_texts 407 = .ok (.bipush 9, 2) := by decide +kernel
theorem dL_texts_409 : decode cL_texts 409 = .ok (.iconst 0, 1) := by decide +kernel
theorem dL_texts_410 : decode cL_texts 410 = .ok (.iconst 0, 1) := by decide +kernel
theorem dL_texts_411 : decode cL_texts 411 = .ok (.iconst 0, 1) := by decide +kernel
theorem dL_texts_412 : decode cL_texts 412 = .ok (.invokestatic 87, 3) := by decide +kernel
theorem dL_texts_415 : decode cL_texts 415 = .ok (.bipush (-11), 2) := by decide +kernel
theorem dL_texts_417 : decode cL_texts 417 = .ok (.if_icmp .ne 16, 3) := by decide +kernel
theorem dL_texts_420 : decode cL_texts 420 = .ok (.aload_n 0, 1) := by decide +kernel
theorem dL_texts_421 : decode cL_texts 421 = .ok (.invokevirtual 109, 3) := by decide +kernel
theorem dL_texts_424 : decode cL_texts 424 = .ok (.bipush 60, 2) := by decide +kernel
theorem dL_texts_426 : decode cL_texts 426 = .ok (.if_icmp .ne 7, 3) := by decide +kernel
theorem dL_texts_429 : decode cL_texts 429 = .ok (.iconst 1, 1) := by decide +kernel
theorem dL_texts_430 : decode cL_texts 430 = .ok (.goto 4, 3) := by decide +kernel
theorem dL_texts_433 : decode cL_texts 433 = .ok (.iconst 0, 1) := by decide +kernel
theorem dL_texts_434 : decode cL_texts 434 = .ok (.ireturn, 1) := by decide +kernel
theorem dL_seen_0 : decode cL_seen 0 = .ok (.ldc2_w 165, 3) := by decide +kernel
theorem dL_seen_3 : decode cL_seen 3 = .ok (.aload_n 0, 1) := by decide +kernel
theorem dL_seen_4 : decode cL_seen 4 = .ok (.iconst 0, 1) := by decide +kernel
theorem dL_seen_5 : decode cL_seen 5 = .ok (.invokevirtual 63, 3) := by decide +kernel
theorem dL_seen_8 : decode cL_seen 8 = .ok (.i2l, 1) := by decide +kernel
theorem dL_seen_9 : decode cL_seen 9 = .ok (.lmul, 1) := by decide +kernel
theorem dL_seen_10 : decode cL_seen 10 = .ok (.aload_n 0, 1) := by decide +kernel
theorem dL_seen_11 : decode cL_seen 11 = .ok (.iconst 1, 1) := by decide +kernel
theorem dL_seen_12 : decode cL_seen 12 = .ok (.invokevirtual 63, 3) := by decide +kernel
theorem dL_seen_15 : decode cL_seen 15 = .ok (.i2l, 1) := by decide +kernel
theorem dL_seen_16 : decode cL_seen 16 = .ok (.ladd, 1) := by decide +kernel
theorem dL_seen_17 : decode cL_seen 17 = .ok (.lstore_n 1, 1) := by decide +kernel
theorem dL_seen_18 : decode cL_seen 18 = .ok (.iconst 0, 1) := by decide +kernel
theorem dL_seen_19 : decode cL_seen 19 = .ok (.istore_n 3, 1) := by decide +kernel
theorem dL_seen_20 : decode cL_seen 20 = .ok (.iload_n 3, 1) := by decide +kernel
theorem dL_seen_21 : decode cL_seen 21 = .ok (.bipush 6, 2) := by decide +kernel
theorem dL_seen_23 : decode cL_seen 23 = .ok (.if_icmp .ge 22, 3) := by decide +kernel
theorem dL_seen_26 : decode cL_seen 26 = .ok (.ldc2_w 165, 3) := by decide +kernel
theorem dL_seen_29 : decode cL_seen 29 = .ok (.lload_n 1, 1) := by decide +kernel
theorem dL_seen_30 : decode cL_seen 30 = .ok (.lmul, 1) := by decide +kernel
theorem dL_seen_31 : decode cL_seen 31 = .ok (.aload_n 0, 1) := by decide +kernel
theorem dL_seen_32 : decode cL_seen 32 = .ok (.iload_n 3, 1) := by decide +kernel
theorem dL_seen_33 : decode cL_seen 33 = .ok (.invokevirtual 60, 3) := by decide +kernel
theorem dL_seen_36 : decode cL_seen 36 = .ok (.i2l, 1) := by decide +kernel
theorem dL_seen_37 : decode cL_seen 37 = .ok (.ladd, 1) := by decide +kernel
theorem dL_seen_38 : decode cL_seen 38 = .ok (.lstore_n 1, 1) := by decide +kernel
theorem dL_seen_39 : decode cL_seen 39 = .ok (.iinc 3 1, 3) := by decide +kernel
theorem dL_seen_42 : decode cL_seen 42 = .ok (.goto (-22), 3) := by decide +kernel
theorem dL_seen_45 : decode cL_seen 45 = .ok (.iconst 0, 1) := by decide +kernel
theorem dL_seen_46 : decode cL_seen 46 = .ok (.istore_n 3, 1) := by decide +kernel
theorem dL_seen_47 : decode cL_seen 47 = .ok (.iload_n 3, 1) := by decide +kernel
theorem dL_seen_48 : decode cL_seen 48 = .ok (.bipush 7, 2) := by decide +kernel
theorem dL_seen_50 : decode cL_seen 50 = .ok (.aload_n 0, 1) := by decide +kernel
theorem dL_seen_51 : decode cL_seen 51 = .ok (.iconst 0, 1) := by decide +kernel
theorem dL_seen_52 : decode cL_seen 52 = .ok (.invokevirtual 60, 3) := by decide +kernel
theorem dL_seen_55 : decode cL_seen 55 = .ok (.imul, 1) := by decide +kernel
theorem dL_seen_56 : decode cL_seen 56 = .ok (.if_icmp .ge 29, 3) := by decide +kernel
theorem dL_seen_59 : decode cL_seen 59 = .ok (.ldc2_w 165, 3) := by decide +kernel
theorem dL_seen_62 : decode cL_seen 62 = .ok (.lload_n 1, 1) := by decide +kernel
theorem dL_seen_63 : decode cL_seen 63 = .ok (.lmul, 1) := by decide +kernel
theorem dL_seen_64 : decode cL_seen 64 = .ok (.aload_n 0, 1) := by decide +kernel
theorem dL_seen_65 : decode cL_seen 65 = .ok (.iload_n 3, 1) := by decide +kernel
theorem dL_seen_66 : decode cL_seen 66 = .ok (.bipush 7, 2) := by decide +kernel
theorem dL_seen_68 : decode cL_seen 68 = .ok (.idiv, 1) := by decide +kernel
theorem dL_seen_69 : decode cL_seen 69 = .ok (.iload_n 3, 1) := by decide +kernel
theorem dL_seen_70 : decode cL_seen 70 = .ok (.bipush 7, 2) := by decide +kernel
theorem dL_seen_72 : decode cL_seen 72 = .ok (.irem, 1) := by decide +kernel
theorem dL_seen_73 : decode cL_seen 73 = .ok (.invokevirtual 48, 3) := by decide +kernel
theorem dL_seen_76 : decode cL_seen 76 = .ok (.i2l, 1) := by decide +kernel
theorem dL_seen_77 : decode cL_seen 77 = .ok (.ladd, 1) := by decide +kernel
theorem dL_seen_78 : decode cL_seen 78 = .ok (.lstore_n 1, 1) := by decide +kernel
theorem dL_seen_79 : decode cL_seen 79 = .ok (.iinc 3 1, 3) := by decide +kernel
theorem dL_seen_82 : decode cL_seen 82 = .ok (.goto (-35), 3) := by decide +kernel
theorem dL_seen_85 : decode cL_seen 85 = .ok (.iconst 0, 1) := by decide +kernel
theorem dL_seen_86 : decode cL_seen 86 = .ok (.istore_n 3, 1) := by decide +kernel
theorem dL_seen_87 : decode cL_seen 87 = .ok (.iload_n 3, 1) := by decide +kernel
theorem dL_seen_88 : decode cL_seen 88 = .ok (.bipush 6, 2) := by decide +kernel
theorem dL_seen_90 : decode cL_seen 90 = .ok (.aload_n 0, 1) := by decide +kernel
theorem dL_seen_91 : decode cL_seen 91 = .ok (.iconst 0, 1) := by decide +kernel
theorem dL_seen_92 : decode cL_seen 92 = .ok (.invokevirtual 60, 3) := by decide +kernel
theorem dL_seen_95 : decode cL_seen 95 = .ok (.imul, 1) := by decide +kernel
theorem dL_seen_96 : decode cL_seen 96 = .ok (.if_icmp .ge 29, 3) := by decide +kernel
theorem dL_seen_99 : decode cL_seen 99 = .ok (.ldc2_w 165, 3) := by decide +kernel
theorem dL_seen_102 : decode cL_seen 102 = .ok (.lload_n 1, 1) := by decide +kernel
theorem dL_seen_103 : decode cL_seen 103 = .ok (.lmul, 1) := by decide +kernel
theorem dL_seen_104 : decode cL_seen 104 = .ok (.aload_n 0, 1) := by decide +kernel
theorem dL_seen_105 : decode cL_seen 105 = .ok (.iload_n 3, 1) := by decide +kernel
theorem dL_seen_106 : decode cL_seen 106 = .ok (.bipush 6, 2) := by decide +kernel
theorem dL_seen_108 : decode cL_seen 108 = .ok (.irem, 1) := by decide +kernel
theorem dL_seen_109 : decode cL_seen 109 = .ok (.iload_n 3, 1) := by decide +kernel
theorem dL_seen_110 : decode cL_seen 110 = .ok (.bipush 6, 2) := by decide +kernel
theorem dL_seen_112 : decode cL_seen 112 = .ok (.idiv, 1) := by decide +kernel
theorem dL_seen_113 : decode cL_seen 113 = .ok (.invokevirtual 51, 3) := by decide +kernel
theorem dL_seen_116 : decode cL_seen 116 = .ok (.i2l, 1) := by decide +kernel
theorem dL_seen_117 : decode cL_seen 117 = .ok (.ladd, 1) := by decide +kernel
theorem dL_seen_118 : decode cL_seen 118 = .ok (.lstore_n 1, 1) := by decide +kernel
theorem dL_seen_119 : decode cL_seen 119 = .ok (.iinc 3 1, 3) := by decide +kernel
theorem dL_seen_122 : decode cL_seen 122 = .ok (.goto (-35), 3) := by decide +kernel
theorem dL_seen_125 : decode cL_seen 125 = .ok (.iconst 0, 1) := by decide +kernel
theorem dL_seen_126 : decode cL_seen 126 = .ok (.istore_n 3, 1) := by decide +kernel
theorem dL_seen_127 : decode cL_seen 127 = .ok (.iload_n 3, 1) := by decide +kernel
theorem dL_seen_128 : decode cL_seen 128 = .ok (.bipush 42, 2) := by decide +kernel
theorem dL_seen_130 : decode cL_seen 130 = .ok (.if_icmp .ge 29, 3) := by decide +kernel
theorem dL_seen_133 : decode cL_seen 133 = .ok (.ldc2_w 165, 3) := by decide +kernel
theorem dL_seen_136 : decode cL_seen 136 = .ok (.lload_n 1, 1) := by decide +kernel
theorem dL_seen_137 : decode cL_seen 137 = .ok (.lmul, 1) := by decide +kernel
theorem dL_seen_138 : decode cL_seen 138 = .ok (.aload_n 0, 1) := by decide +kernel
theorem dL_seen_139 : decode cL_seen 139 = .ok (.iload_n 3, 1) := by decide +kernel
theorem dL_seen_140 : decode cL_seen 140 = .ok (.bipush 7, 2) := by decide +kernel
theorem dL_seen_142 : decode cL_seen 142 = .ok (.idiv, 1) := by decide +kernel
theorem dL_seen_143 : decode cL_seen 143 = .ok (.iload_n 3, 1) := by decide +kernel
theorem dL_seen_144 : decode cL_seen 144 = .ok (.bipush 7, 2) := by decide +kernel
theorem dL_seen_146 : decode cL_seen 146 = .ok (.irem, 1) := by decide +kernel
theorem dL_seen_147 : decode cL_seen 147 = .ok (.invokevirtual 54, 3) := by decide +kernel
theorem dL_seen_150 : decode cL_seen 150 = .ok (.i2l, 1) := by decide +kernel
theorem dL_seen_151 : decode cL_seen 151 = .ok (.ladd, 1) := by decide +kernel
theorem dL_seen_152 : decode cL_seen 152 = .ok (.lstore_n 1, 1) := by decide +kernel
theorem dL_seen_153 : decode cL_seen 153 = .ok (.iinc 3 1, 3) := by decide +kernel
theorem dL_seen_156 : decode cL_seen 156 = .ok (.goto (-29), 3) := by decide +kernel
theorem dL_seen_159 : decode cL_seen 159 = .ok (.lload_n 1, 1) := by decide +kernel
theorem dL_seen_160 : decode cL_seen 160 = .ok (.lreturn, 1) := by decide +kernel
theorem dL_law_0 : decode cL_law 0 = .ok (.invokestatic 167, 3) := by decide +kernel
theorem dL_law_3 : decode cL_law 3 = .ok (.ifCond .eq 9, 3) := by decide +kernel
theorem dL_law_6 : decode cL_law 6 = .ok (.invokestatic 171, 3) := by decide +kernel
theorem dL_law_9 : decode cL_law 9 = .ok (.ifCond .ne 5, 3) := by decide +kernel
theorem dL_law_12 : decode cL_law 12 = .ok (.iconst 0, 1) := by decide +kernel
theorem dL_law_13 : decode cL_law 13 = .ok (.ireturn, 1) := by decide +kernel
theorem dL_law_14 : decode cL_law 14 = .ok (.new 10, 3) := by decide +kernel
theorem dL_law_17 : decode cL_law 17 = .ok (.dup, 1) := by decide +kernel
theorem dL_law_18 : decode cL_law 18 = .ok (.invokespecial 98, 3) := by decide +kernel
theorem dL_law_21 : decode cL_law 21 = .ok (.astore_n 1, 1) := by decide +kernel
theorem dL_law_22 : decode cL_law 22 = .ok (.bipush 64, 2) := by decide +kernel
theorem dL_law_24 : decode cL_law 24 = .ok (.newarray .long, 2) := by decide +kernel
theorem dL_law_26 : decode cL_law 26 = .ok (.astore_n 2, 1) := by decide +kernel
theorem dL_law_27 : decode cL_law 27 = .ok (.iconst 0, 1) := by decide +kernel
theorem dL_law_28 : decode cL_law 28 = .ok (.istore_n 3, 1) := by decide +kernel
theorem dL_law_29 : decode cL_law 29 = .ok (.iconst 0, 1) := by decide +kernel
theorem dL_law_30 : decode cL_law 30 = .ok (.istore 4, 2) := by decide +kernel
theorem dL_law_32 : decode cL_law 32 = .ok (.iload 4, 2) := by decide +kernel
theorem dL_law_34 : decode cL_law 34 = .ok (.bipush 34, 2) := by decide +kernel
theorem dL_law_36 : decode cL_law 36 = .ok (.if_icmp .ge 294, 3) := by decide +kernel
theorem dL_law_39 : decode cL_law 39 = .ok (.aload_n 0, 1) := by decide +kernel
theorem dL_law_40 : decode cL_law 40 = .ok (.iload 4, 2) := by decide +kernel
theorem dL_law_42 : decode cL_law 42 = .ok (.invokestatic 174, 3) := by decide +kernel
theorem dL_law_45 : decode cL_law 45 = .ok (.istore 5, 2) := by decide +kernel
theorem dL_law_47 : decode cL_law 47 = .ok (.iload 4, 2) := by decide +kernel
theorem dL_law_49 : decode cL_law 49 = .ok (.iconst 4, 1) := by decide +kernel
theorem dL_law_50 : decode cL_law 50 = .ok (.if_icmp .ge 7, 3) := by decide +kernel
theorem dL_law_53 : decode cL_law 53 = .ok (.iconst 0, 1) := by decide +kernel
theorem dL_law_54 : decode cL_law 54 = .ok (.goto 10, 3) := by decide +kernel
theorem dL_law_57 : decode cL_law 57 = .ok (.iload 5, 2) := by decide +kernel
theorem dL_law_59 : decode cL_law 59 = .ok (.bipush 10, 2) := by decide +kernel
theorem dL_law_61 : decode cL_law 61 = .ok (.invokestatic 178, 3) := by decide +kernel
theorem dL_law_64 : decode cL_law 64 = .ok (.istore 6, 2) := by decide +kernel
theorem dL_law_66 : decode cL_law 66 = .ok (.aload_n 1, 1) := by decide +kernel
theorem dL_law_67 : decode cL_law 67 = .ok (.bipush 6, 2) := by decide +kernel
theorem dL_law_69 : decode cL_law 69 = .ok (.invokevirtual 60, 3) := by decide +kernel
theorem dL_law_72 : decode cL_law 72 = .ok (.istore 7, 2) := by decide +kernel
theorem dL_law_74 : decode cL_law 74 = .ok (.iload 5, 2) := by decide +kernel
theorem dL_law_76 : decode cL_law 76 = .ok (.iconst 4, 1) := by decide +kernel
theorem dL_law_77 : decode cL_law 77 = .ok (.ishr, 1) := by decide +kernel
theorem dL_law_78 : decode cL_law 78 = .ok (.bipush 6, 2) := by decide +kernel
theorem dL_law_80 : decode cL_law 80 = .ok (.invokestatic 178, 3) := by decide +kernel
theorem dL_law_83 : decode cL_law 83 = .ok (.istore 8, 2) := by decide +kernel
theorem dL_law_85 : decode cL_law 85 = .ok (.iload 5, 2) := by decide +kernel
theorem dL_law_87 : decode cL_law 87 = .ok (.bipush 7, 2) := by decide +kernel
theorem dL_law_89 : decode cL_law 89 = .ok (.ishr, 1) := by decide +kernel
theorem dL_law_90 : decode cL_law 90 = .ok (.bipush 12, 2) := by decide +kernel
theorem dL_law_92 : decode cL_law 92 = .ok (.invokestatic 178, 3) := by decide +kernel
theorem dL_law_95 : decode cL_law 95 = .ok (.istore 9, 2) := by decide +kernel
theorem dL_law_97 : decode cL_law 97 = .ok (.aload_n 2, 1) := by decide +kernel
theorem dL_law_98 : decode cL_law 98 = .ok (.iload_n 3, 1) := by decide +kernel
theorem dL_law_99 : decode cL_law 99 = .ok (.aload_n 1, 1) := by decide +kernel
theorem dL_law_100 : decode cL_law 100 = .ok (.invokestatic 179, 3) := by decide +kernel
theorem dL_law_103 : decode cL_law 103 = .ok (.lastore, 1) := by decide +kernel
theorem dL_law_104 : decode cL_law 104 = .ok (.iload 6, 2) := by decide +kernel
theorem dL_law_106 : decode cL_law 106 = .ok (.iconst 3, 1) := by decide +kernel
theorem dL_law_107 : decode cL_law 107 = .ok (.if_icmp .ge 35, 3) := by decide +kernel
theorem dL_law_110 : decode cL_law 110 = .ok (.aload_n 1, 1) := by decide +kernel
theorem dL_law_111 : decode cL_law 111 = .ok (.iconst 0, 1) := by decide +kernel
theorem dL_law_112 : decode cL_law 112 = .ok (.iconst 1, 1) := by decide +kernel
theorem dL_law_113 : decode cL_law 113 = .ok (.iload 5, 2) := by decide +kernel
theorem dL_law_115 : decode cL_law 115 = .ok (.iconst 4, 1) := by decide +kernel
theorem dL_law_116 : decode cL_law 116 = .ok (.ishr, 1) := by decide +kernel
theorem dL_law_117 : decode cL_law 117 = .ok (.bipush 63, 2) := by decide +kernel
theorem dL_law_119 : decode cL_law 119 = .ok (.invokestatic 178, 3) := by decide +kernel
theorem dL_law_122 : decode cL_law 122 = .ok (.iadd, 1) := by decide +kernel
theorem dL_law_123 : decode cL_law 123 = .ok (.iconst (-1), 1) := by decide +kernel
theorem dL_law_124 : decode cL_law 124 = .ok (.iconst 1, 1) := by decide +kernel
theorem dL_law_125 : decode cL_law 125 = .ok (.iload 5, 2) := by decide +kernel
theorem dL_law_127 : decode cL_law 127 = .ok (.bipush 10, 2) := by decide +kernel
theorem dL_law_129 : decode cL_law 129 = .ok (.ishr, 1) := by decide +kernel
theorem dL_law_130 : decode cL_law 130 = .ok (.bipush 99, 2) := by decide +kernel
theorem dL_law_132 : decode cL_law 132 = .ok (.invokestatic 178, 3) := by decide +kernel
theorem dL_law_135 : decode cL_law 135 = .ok (.iadd, 1) := by decide +kernel
theorem dL_law_136 : decode cL_law 136 = .ok (.invokestatic 87, 3) := by decide +kernel
theorem dL_law_139 : decode cL_law 139 = .ok (.goto 139, 3) := by decide +kernel
theorem dL_law_142 : decode cL_law 142 = .ok (.iload 6, 2) := by decide +kernel
theorem dL_law_144 : decode cL_law 144 = .ok (.iconst 3, 1) := by decide +kernel
theorem dL_law_145 : decode cL_law 145 = .ok (.if_icmp .ne 26, 3) := by decide +kernel
theorem dL_law_148 : decode cL_law 148 = .ok (.aload_n 1, 1) := by decide +kernel
theorem dL_law_149 : decode cL_law 149 = .ok (.iconst 1, 1) := by decide +kernel
theorem dL_law_150 : decode cL_law 150 = .ok (.iload 9, 2) := by decide +kernel
theorem dL_law_152 : decode cL_law 152 = .ok (.iconst 1, 1) := by decide +kernel
theorem dL_law_153 : decode cL_law 153 = .ok (.iload 5, 2) := by decide +kernel
theorem dL_law_155 : decode cL_law 155 = .ok (.bipush 11, 2) := by decide +kernel
theorem dL_law_157 : decode cL_law 157 = .ok (.ishr, 1) := by decide +kernel
theorem dL_law_158 : decode cL_law 158 = .ok (.bipush 63, 2) := by decide +kernel
theorem dL_law_160 : decode cL_law 160 = .ok (.invokestatic 178, 3) := by decide +kernel
theorem dL_law_163 : decode cL_law 163 = .ok (.iadd, 1) := by decide +kernel
theorem dL_law_164 : decode cL_law 164 = .ok (.iconst (-1), 1) := by decide +kernel
theorem dL_law_165 : decode cL_law 165 = .ok (.invokestatic 87, 3) := by decide +kernel
theorem dL_law_168 : decode cL_law 168 = .ok (.goto 110, 3) := by decide +kernel
theorem dL_law_171 : decode cL_law 171 = .ok (.iload 6, 2) := by decide +kernel
theorem dL_law_173 : decode cL_law 173 = .ok (.iconst 4, 1) := by decide +kernel
theorem dL_law_174 : decode cL_law 174 = .ok (.if_icmp .ne 14, 3) := by decide +kernel
theorem dL_law_177 : decode cL_law 177 = .ok (.aload_n 1, 1) := by decide +kernel
theorem dL_law_178 : decode cL_law 178 = .ok (.iconst 2, 1) := by decide +kernel
theorem dL_law_179 : decode cL_law 179 = .ok (.iconst 0, 1) := by decide +kernel
theorem dL_law_180 : decode cL_law 180 = .ok (.iconst 0, 1) := by decide +kernel
theorem dL_law_181 : decode cL_law 181 = .ok (.iconst 0, 1) := by decide +kernel
theorem dL_law_182 : decode cL_law 182 = .ok (.invokestatic 87, 3) := by decide +kernel
theorem dL_law_185 : decode cL_law 185 = .ok (.goto 93, 3) := by decide +kernel
theorem dL_law_188 : decode cL_law 188 = .ok (.iload 6, 2) := by decide +kernel
theorem dL_law_190 : decode cL_law 190 = .ok (.iconst 5, 1) := by decide +kernel
theorem dL_law_191 : decode cL_law 191 = .ok (.if_icmp .ne 29, 3) := by decide +kernel
theorem dL_law_194 : decode cL_law 194 = .ok (.aload_n 1, 1) := by decide +kernel
theorem dL_law_195 : decode cL_law 195 = .ok (.iconst 3, 1) := by decide +kernel
theorem dL_law_196 : decode cL_law 196 = .ok (.iload 5, 2) := by decide +kernel
theorem dL_law_198 : decode cL_law 198 = .ok (.iconst 4, 1) := by decide +kernel
theorem dL_law_199 : decode cL_law 199 = .ok (.ishr, 1) := by decide +kernel
theorem dL_law_200 : decode cL_law 200 = .ok (.iconst 2, 1) := by decide +kernel
theorem dL_law_201 : decode cL_law 201 = .ok (.invokestatic 178, 3) := by decide +kernel
theorem dL_law_204 : decode cL_law 204 = .ok (.iload 5, 2) := by decide +kernel
theorem dL_law_206 : decode cL_law 206 = .ok (.iconst 5, 1) := by decide +kernel
theorem dL_law_207 : decode cL_law 207 = .ok (.ishr, 1) := by decide +kernel
theorem dL_law_208 : decode cL_law 208 = .ok (.bipush 22, 2) := by decide +kernel
theorem dL_law_210 : decode cL_law 210 = .ok (.invokestatic 178, 3) := by decide +kernel
theorem dL_law_213 : decode cL_law 213 = .ok (.iconst 0, 1) := by decide +kernel
theorem dL_law_214 : decode cL_law 214 = .ok (.invokestatic 87, 3) := by decide +kernel
theorem dL_law_217 : decode cL_law 217 = .ok (.goto 61, 3) := by decide +kernel
theorem dL_law_220 : decode cL_law 220 = .ok (.iload 6, 2) := by decide +kernel
theorem dL_law_222 : decode cL_law 222 = .ok (.bipush 8, 2) := by decide +kernel
theorem dL_law_224 : decode cL_law 224 = .ok (.if_icmp .ge 16, 3) := by decide +kernel
theorem dL_law_227 : decode cL_law 227 = .ok (.aload_n 1, 1) := by decide +kernel
theorem dL_law_228 : decode cL_law 228 = .ok (.iconst 4, 1) := by decide +kernel
theorem dL_law_229 : decode cL_law 229 = .ok (.iload 8, 2) := by decide +kernel
theorem dL_law_231 : decode cL_law 231 = .ok (.iload 9, 2) := by decide +kernel
theorem dL_law_233 : decode cL_law 233 = .ok (.iconst 0, 1) := by decide +kernel
theorem dL_law_234 : decode cL_law 234 = .ok (.invokestatic 87, 3) := by decide +kernel
theorem dL_law_237 : decode cL_law 237 = .ok (.goto 41, 3) := by decide +kernel
theorem dL_law_240 : decode cL_law 240 = .ok (.iload 6, 2) := by decide +kernel
theorem dL_law_242 : decode cL_law 242 = .ok (.bipush 8, 2) := by decide +kernel
theorem dL_law_244 : decode cL_law 244 = .ok (.if_icmp .ne 24, 3) := by decide +kernel
theorem dL_law_247 : decode cL_law 247 = .ok (.aload_n 1, 1) := by decide +kernel
theorem dL_law_248 : decode cL_law 248 = .ok (.iconst 5, 1) := by decide +kernel
theorem dL_law_249 : decode cL_law 249 = .ok (.iload 9, 2) := by decide +kernel
theorem dL_law_251 : decode cL_law 251 = .ok (.iload 5, 2) := by decide +kernel
theorem dL_law_253 : decode cL_law 253 = .ok (.bipush 11, 2) := by decide +kernel
theorem dL_law_255 : decode cL_law 255 = .ok (.ishr, 1) := by decide +kernel
theorem dL_law_256 : decode cL_law 256 = .ok (.bipush 64, 2) := by decide +kernel
theorem dL_law_258 : decode cL_law 258 = .ok (.invokestatic 178, 3) := by decide +kernel
theorem dL_law_261 : decode cL_law 261 = .ok (.iconst 0, 1) := by decide +kernel
theorem dL_law_262 : decode cL_law 262 = .ok (.invokestatic 87, 3) := by decide +kernel
theorem dL_law_265 : decode cL_law 265 = .ok (.goto 13, 3) := by decide +kernel
theorem dL_law_268 : decode cL_law 268 = .ok (.aload_n 1, 1) := by decide +kernel
theorem dL_law_269 : decode cL_law 269 = .ok (.bipush 6, 2) := by decide +kernel
theorem dL_law_271 : decode cL_law 271 = .ok (.iload 8, 2) := by decide +kernel
theorem dL_law_273 : decode cL_law 273 = .ok (.iconst 0, 1) := by decide +kernel
theorem dL_law_274 : decode cL_law 274 = .ok (.iconst 0, 1) := by decide +kernel
theorem dL_law_275 : decode cL_law 275 = .ok (.invokestatic 87, 3) := by decide +kernel
theorem dL_law_278 : decode cL_law 278 = .ok (.istore 10, 2) := by decide +kernel
theorem dL_law_280 : decode cL_law 280 = .ok (.iload 10, 2) := by decide +kernel
theorem dL_law_282 : decode cL_law 282 = .ok (.iconst (-1), 1) := by decide +kernel
theorem dL_law_283 : decode cL_law 283 = .ok (.if_icmp .ge 27, 3) := by decide +kernel
theorem dL_law_286 : decode cL_law 286 = .ok (.aload_n 1, 1) := by decide +kernel
theorem dL_law_287 : decode cL_law 287 = .ok (.bipush 6, 2) := by decide +kernel
theorem dL_law_289 : decode cL_law 289 = .ok (.invokevirtual 60, 3) := by decide +kernel
theorem dL_law_292 : decode cL_law 292 = .ok (.iload 7, 2) := by decide +kernel
theorem dL_law_294 : decode cL_law 294 = .ok (.if_icmp .ne 14, 3) := by decide +kernel
theorem dL_law_297 : decode cL_law 297 = .ok (.aload_n 1, 1) := by decide +kernel
theorem dL_law_298 : decode cL_law 298 = .ok (.invokestatic 179, 3) := by decide +kernel
theorem dL_law_301 : decode cL_law 301 = .ok (.aload_n 2, 1) := by decide +kernel
theorem dL_law_302 : decode cL_law 302 = .ok (.iload_n 3, 1) := by decide +kernel
theorem dL_law_303 : decode cL_law 303 = .ok (.laload, 1) := by decide +kernel
theorem dL_law_304 : decode cL_law 304 = .ok (.lcmp, 1) := by decide +kernel
theorem dL_law_305 : decode cL_law 305 = .ok (.ifCond .eq 5, 3) := by decide +kernel
theorem dL_law_308 : decode cL_law 308 = .ok (.iconst 0, 1) := by decide +kernel
theorem dL_law_309 : decode cL_law 309 = .ok (.ireturn, 1) := by decide +kernel
theorem dL_law_310 : decode cL_law 310 = .ok (.iload_n 3, 1) := by decide +kernel
theorem dL_law_311 : decode cL_law 311 = .ok (.iload 10, 2) := by decide +kernel
theorem dL_law_313 : decode cL_law 313 = .ok (.iconst (-1), 1) := by decide +kernel
theorem dL_law_314 : decode cL_law 314 = .ok (.if_icmp .ge 7, 3) := by decide +kernel
theorem dL_law_317 : decode cL_law 317 = .ok (.iconst 0, 1) := by decide +kernel
theorem dL_law_318 : decode cL_law 318 = .ok (.goto 4, 3) := by decide +kernel
theorem dL_law_321 : decode cL_law 321 = .ok (.iconst 1, 1) := by decide +kernel
theorem dL_law_322 : decode cL_law 322 = .ok (.iadd, 1) := by decide +kernel
theorem dL_law_323 : decode cL_law 323 = .ok (.istore_n 3, 1) := by decide +kernel
theorem dL_law_324 : decode cL_law 324 = .ok (.iinc 4 1, 3) := by decide +kernel
theorem dL_law_327 : decode cL_law 327 = .ok (.goto (-295), 3) := by decide +kernel
theorem dL_law_330 : decode cL_law 330 = .ok (.aload_n 2, 1) := by decide +kernel
theorem dL_law_331 : decode cL_law 331 = .ok (.iload_n 3, 1) := by decide +kernel
theorem dL_law_332 : decode cL_law 332 = .ok (.aload_n 1, 1) := by decide +kernel
theorem dL_law_333 : decode cL_law 333 = .ok (.invokestatic 179, 3) := by decide +kernel
theorem dL_law_336 : decode cL_law 336 = .ok (.lastore, 1) := by decide +kernel
theorem dL_law_337 : decode cL_law 337 = .ok (.aload_n 1, 1) := by decide +kernel
theorem dL_law_338 : decode cL_law 338 = .ok (.iconst 0, 1) := by decide +kernel
theorem dL_law_339 : decode cL_law 339 = .ok (.invokevirtual 60, 3) := by decide +kernel
theorem dL_law_342 : decode cL_law 342 = .ok (.ifCond .le 12, 3) := by decide +kernel
theorem dL_law_345 : decode cL_law 345 = .ok (.aload_n 1, 1) := by decide +kernel
theorem dL_law_346 : decode cL_law 346 = .ok (.invokestatic 103, 3) := by decide +kernel
theorem dL_law_349 : decode cL_law 349 = .ok (.ifCond .ne 5, 3) := by decide +kernel
theorem dL_law_352 : decode cL_law 352 = .ok (.iconst 0, 1) := by decide +kernel
theorem dL_law_353 : decode cL_law 353 = .ok (.ireturn, 1) := by decide +kernel
theorem dL_law_354 : decode cL_law 354 = .ok (.iconst 0, 1) := by decide +kernel
theorem dL_law_355 : decode cL_law 355 = .ok (.istore 4, 2) := by decide +kernel
theorem dL_law_357 : decode cL_law 357 = .ok (.aload_n 1, 1) := by decide +kernel
theorem dL_law_358 : decode cL_law 358 = .ok (.bipush 6, 2) := by decide +kernel
theorem dL_law_360 : decode cL_law 360 = .ok (.invokevirtual 60, 3) := by decide +kernel
theorem dL_law_363 : decode cL_law 363 = .ok (.ifCond .le 50, 3) := by decide +kernel
theorem dL_law_366 : decode cL_law 366 = .ok (.aload_n 1, 1) := by decide +kernel
theorem dL_law_367 : decode cL_law 367 = .ok (.bipush 6, 2) := by decide +kernel
theorem dL_law_369 : decode cL_law 369 = .ok (.invokevirtual 60, 3) := by decide +kernel
theorem dL_law_372 : decode cL_law 372 = .ok (.istore 5, 2) := by decide +kernel
theorem dL_law_374 : decode cL_law 374 = .ok (.iload 4, 2) := by decide +kernel
theorem dL_law_376 : decode cL_law 376 = .ok (.iconst 5, 1) := by decide +kernel
theorem dL_law_377 : decode cL_law 377 = .ok (.if_icmp .gt 28, 3) := by decide +kernel
theorem dL_law_380 : decode cL_law 380 = .ok (.aload_n 1, 1) := by decide +kernel
theorem dL_law_381 : decode cL_law 381 = .ok (.invokestatic 179, 3) := by decide +kernel
theorem dL_law_384 : decode cL_law 384 = .ok (.aload_n 2, 1) := by decide +kernel
theorem dL_law_385 : decode cL_law 385 = .ok (.iload_n 3, 1) := by decide +kernel
theorem dL_law_386 : decode cL_law 386 = .ok (.iload 4, 2) := by decide +kernel
theorem dL_law_388 : decode cL_law 388 = .ok (.isub, 1) := by decide +kernel
theorem dL_law_389 : decode cL_law 389 = .ok (.laload, 1) := by decide +kernel
theorem dL_law_390 : decode cL_law 390 = .ok (.lcmp, 1) := by decide +kernel
theorem dL_law_391 : decode cL_law 391 = .ok (.ifCond .ne 14, 3) := by decide +kernel
theorem dL_law_394 : decode cL_law 394 = .ok (.aload_n 1, 1) := by decide +kernel
theorem dL_law_395 : decode cL_law 395 = .ok (.invokevirtual 45, 3) := by decide +kernel
theorem dL_law_398 : decode cL_law 398 = .ok (.iload 5, 2) := by decide +kernel
theorem dL_law_400 : decode cL_law 400 = .ok (.iconst 1, 1) := by decide +kernel
theorem dL_law_401 : decode cL_law 401 = .ok (.isub, 1) := by decide +kernel
theorem dL_law_402 : decode cL_law 402 = .ok (.if_icmp .eq 5, 3) := by decide +kernel
theorem dL_law_405 : decode cL_law 405 = .ok (.iconst 0, 1) := by decide +kernel
theorem dL_law_406 : decode cL_law 406 = .ok (.ireturn, 1) := by decide +kernel
theorem dL_law_407 : decode cL_law 407 = .ok (.iinc 4 1, 3) := by decide +kernel
theorem dL_law_410 : decode cL_law 410 = .ok (.goto (-53), 3) := by decide +kernel
theorem dL_law_413 : decode cL_law 413 = .ok (.aload_n 1, 1) := by decide +kernel
theorem dL_law_414 : decode cL_law 414 = .ok (.bipush 10, 2) := by decide +kernel
theorem dL_law_416 : decode cL_law 416 = .ok (.iconst 0, 1) := by decide +kernel
theorem dL_law_417 : decode cL_law 417 = .ok (.iconst 0, 1) := by decide +kernel
theorem dL_law_418 : decode cL_law 418 = .ok (.iconst 0, 1) := by decide +kernel
theorem dL_law_419 : decode cL_law 419 = .ok (.invokestatic 87, 3) := by decide +kernel
theorem dL_law_422 : decode cL_law 422 = .ok (.bipush (-12), 2) := by decide +kernel
theorem dL_law_424 : decode cL_law 424 = .ok (.if_icmp .ne 31, 3) := by decide +kernel
theorem dL_law_427 : decode cL_law 427 = .ok (.aload_n 1, 1) := by decide +kernel
theorem dL_law_428 : decode cL_law 428 = .ok (.invokestatic 179, 3) := by decide +kernel
theorem dL_law_431 : decode cL_law 431 = .ok (.aload_n 2, 1) := by decide +kernel
theorem dL_law_432 : decode cL_law 432 = .ok (.iload_n 3, 1) := by decide +kernel
theorem dL_law_433 : decode cL_law 433 = .ok (.bipush 6, 2) := by decide +kernel
theorem dL_law_435 : decode cL_law 435 = .ok (.if_icmp .le 10, 3) := by decide +kernel
theorem dL_law_438 : decode cL_law 438 = .ok (.iload_n 3, 1) := by decide +kernel
theorem dL_law_439 : decode cL_law 439 = .ok (.bipush 6, 2) := by decide +kernel
theorem dL_law_441 : decode cL_law 441 = .ok (.isub, 1) := by decide +kernel
theorem dL_law_442 : decode cL_law 442 = .ok (.goto 4, 3) := by decide +kernel
theorem dL_law_445 : decode cL_law 445 = .ok (.iconst 0, 1) := by decide +kernel
theorem dL_law_446 : decode cL_law 446 = .ok (.laload, 1) := by decide +kernel
theorem dL_law_447 : decode cL_law 447 = .ok (.lcmp, 1) := by decide +kernel
theorem dL_law_448 : decode cL_law 448 = .ok (.ifCond .ne 7, 3) := by decide +kernel
theorem dL_law_451 : decode cL_law 451 = .ok (.iconst 1, 1) := by decide +kernel
theorem dL_law_452 : decode cL_law 452 = .ok (.goto 4, 3) := by decide +kernel
theorem dL_law_455 : decode cL_law 455 = .ok (.iconst 0, 1) := by decide +kernel
theorem dL_law_456 : decode cL_law 456 = .ok (.ireturn, 1) := by decide +kernel
