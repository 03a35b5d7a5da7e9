/-! ===== what the Statement gives at the law's entry ===== -/
def fC : List Cond := flatC (Jvm.Cond.and given_1 narrow_1)
def tmG (i : Nat) : Term := .string "LogHunt$Reader" (ixG.getD i 0)
theorem f_1 : Cond.exactly (tmG 0) "java/lang/String" ∈ fC := List.mem_of_getElem? (i := 310) (by decide +kernel)
theorem f_2 : Cond.exactly (tmG 1) "java/lang/String" ∈ fC := List.mem_of_getElem? (i := 324) (by decide +kernel)
theorem f_3 : Cond.exactly (tmG 2) "java/lang/String" ∈ fC := List.mem_of_getElem? (i := 340) (by decide +kernel)
theorem f_4 : Cond.exactly (tmG 3) "java/lang/String" ∈ fC := List.mem_of_getElem? (i := 358) (by decide +kernel)
theorem f_5 : Cond.exactly (tmG 4) "java/lang/String" ∈ fC := List.mem_of_getElem? (i := 378) (by decide +kernel)
theorem f_6 : Cond.exactly (tmG 5) "java/lang/String" ∈ fC := List.mem_of_getElem? (i := 400) (by decide +kernel)
theorem f_7 : Cond.exactly (tmG 6) "java/lang/String" ∈ fC := List.mem_of_getElem? (i := 423) (by decide +kernel)
theorem f_8 : Cond.exactly (tmG 7) "java/lang/String" ∈ fC := List.mem_of_getElem? (i := 445) (by decide +kernel)
theorem f_9 : Cond.exactly (tmG 8) "java/lang/String" ∈ fC := List.mem_of_getElem? (i := 467) (by decide +kernel)
theorem f_ex : ∀ i, i < 9 → Cond.exactly (tmG i) "java/lang/String" ∈ fC := fun i hi => match i, hi with
  | 0, _ => f_1
  | 1, _ => f_2
  | 2, _ => f_3
  | 3, _ => f_4
  | 4, _ => f_5
  | 5, _ => f_6
  | 6, _ => f_7
  | 7, _ => f_8
  | 8, _ => f_9
  | k + 9, h => absurd h (by omega)
theorem f_10 : Cond.eq (.field (tmG 0) "java/lang/String" "coder" "B") (.int 0) ∈ fC := List.mem_of_getElem? (i := 311) (by decide +kernel)
theorem f_11 : Cond.eq (.field (tmG 1) "java/lang/String" "coder" "B") (.int 0) ∈ fC := List.mem_of_getElem? (i := 325) (by decide +kernel)
theorem f_12 : Cond.eq (.field (tmG 2) "java/lang/String" "coder" "B") (.int 0) ∈ fC := List.mem_of_getElem? (i := 341) (by decide +kernel)
theorem f_13 : Cond.eq (.field (tmG 3) "java/lang/String" "coder" "B") (.int 0) ∈ fC := List.mem_of_getElem? (i := 359) (by decide +kernel)
theorem f_14 : Cond.eq (.field (tmG 4) "java/lang/String" "coder" "B") (.int 0) ∈ fC := List.mem_of_getElem? (i := 379) (by decide +kernel)
theorem f_15 : Cond.eq (.field (tmG 5) "java/lang/String" "coder" "B") (.int 0) ∈ fC := List.mem_of_getElem? (i := 401) (by decide +kernel)
theorem f_16 : Cond.eq (.field (tmG 6) "java/lang/String" "coder" "B") (.int 0) ∈ fC := List.mem_of_getElem? (i := 424) (by decide +kernel)
theorem f_17 : Cond.eq (.field (tmG 7) "java/lang/String" "coder" "B") (.int 0) ∈ fC := List.mem_of_getElem? (i := 446) (by decide +kernel)
theorem f_18 : Cond.eq (.field (tmG 8) "java/lang/String" "coder" "B") (.int 0) ∈ fC := List.mem_of_getElem? (i := 468) (by decide +kernel)
theorem f_co : ∀ i, i < 9 → Cond.eq (.field (tmG i) "java/lang/String" "coder" "B") (.int 0) ∈ fC := fun i hi => match i, hi with
  | 0, _ => f_10
  | 1, _ => f_11
  | 2, _ => f_12
  | 3, _ => f_13
  | 4, _ => f_14
  | 5, _ => f_15
  | 6, _ => f_16
  | 7, _ => f_17
  | 8, _ => f_18
  | k + 9, h => absurd h (by omega)
theorem f_19 : Cond.arrayOf (.field (tmG 0) "java/lang/String" "value" "[B") .byte ∈ fC := List.mem_of_getElem? (i := 312) (by decide +kernel)
theorem f_20 : Cond.arrayOf (.field (tmG 1) "java/lang/String" "value" "[B") .byte ∈ fC := List.mem_of_getElem? (i := 326) (by decide +kernel)
theorem f_21 : Cond.arrayOf (.field (tmG 2) "java/lang/String" "value" "[B") .byte ∈ fC := List.mem_of_getElem? (i := 342) (by decide +kernel)
theorem f_22 : Cond.arrayOf (.field (tmG 3) "java/lang/String" "value" "[B") .byte ∈ fC := List.mem_of_getElem? (i := 360) (by decide +kernel)
theorem f_23 : Cond.arrayOf (.field (tmG 4) "java/lang/String" "value" "[B") .byte ∈ fC := List.mem_of_getElem? (i := 380) (by decide +kernel)
theorem f_24 : Cond.arrayOf (.field (tmG 5) "java/lang/String" "value" "[B") .byte ∈ fC := List.mem_of_getElem? (i := 402) (by decide +kernel)
theorem f_25 : Cond.arrayOf (.field (tmG 6) "java/lang/String" "value" "[B") .byte ∈ fC := List.mem_of_getElem? (i := 425) (by decide +kernel)
theorem f_26 : Cond.arrayOf (.field (tmG 7) "java/lang/String" "value" "[B") .byte ∈ fC := List.mem_of_getElem? (i := 447) (by decide +kernel)
theorem f_27 : Cond.arrayOf (.field (tmG 8) "java/lang/String" "value" "[B") .byte ∈ fC := List.mem_of_getElem? (i := 469) (by decide +kernel)
theorem f_ar : ∀ i, i < 9 → Cond.arrayOf (.field (tmG i) "java/lang/String" "value" "[B") .byte ∈ fC := fun i hi => match i, hi with
  | 0, _ => f_19
  | 1, _ => f_20
  | 2, _ => f_21
  | 3, _ => f_22
  | 4, _ => f_23
  | 5, _ => f_24
  | 6, _ => f_25
  | 7, _ => f_26
  | 8, _ => f_27
  | k + 9, h => absurd h (by omega)
theorem f_28 : Cond.eq (.length (.field (tmG 0) "java/lang/String" "value" "[B")) (.int (Int32.ofNat (lenG.getD 0 0))) ∈ fC := List.mem_of_getElem? (i := 313) (by decide +kernel)
theorem f_29 : Cond.eq (.length (.field (tmG 1) "java/lang/String" "value" "[B")) (.int (Int32.ofNat (lenG.getD 1 0))) ∈ fC := List.mem_of_getElem? (i := 327) (by decide +kernel)
theorem f_30 : Cond.eq (.length (.field (tmG 2) "java/lang/String" "value" "[B")) (.int (Int32.ofNat (lenG.getD 2 0))) ∈ fC := List.mem_of_getElem? (i := 343) (by decide +kernel)
theorem f_31 : Cond.eq (.length (.field (tmG 3) "java/lang/String" "value" "[B")) (.int (Int32.ofNat (lenG.getD 3 0))) ∈ fC := List.mem_of_getElem? (i := 361) (by decide +kernel)
theorem f_32 : Cond.eq (.length (.field (tmG 4) "java/lang/String" "value" "[B")) (.int (Int32.ofNat (lenG.getD 4 0))) ∈ fC := List.mem_of_getElem? (i := 381) (by decide +kernel)
theorem f_33 : Cond.eq (.length (.field (tmG 5) "java/lang/String" "value" "[B")) (.int (Int32.ofNat (lenG.getD 5 0))) ∈ fC := List.mem_of_getElem? (i := 403) (by decide +kernel)
theorem f_34 : Cond.eq (.length (.field (tmG 6) "java/lang/String" "value" "[B")) (.int (Int32.ofNat (lenG.getD 6 0))) ∈ fC := List.mem_of_getElem? (i := 426) (by decide +kernel)
theorem f_35 : Cond.eq (.length (.field (tmG 7) "java/lang/String" "value" "[B")) (.int (Int32.ofNat (lenG.getD 7 0))) ∈ fC := List.mem_of_getElem? (i := 448) (by decide +kernel)
theorem f_36 : Cond.eq (.length (.field (tmG 8) "java/lang/String" "value" "[B")) (.int (Int32.ofNat (lenG.getD 8 0))) ∈ fC := List.mem_of_getElem? (i := 470) (by decide +kernel)
theorem f_le : ∀ i, i < 9 → Cond.eq (.length (.field (tmG i) "java/lang/String" "value" "[B")) (.int (Int32.ofNat (lenG.getD i 0))) ∈ fC := fun i hi => match i, hi with
  | 0, _ => f_28
  | 1, _ => f_29
  | 2, _ => f_30
  | 3, _ => f_31
  | 4, _ => f_32
  | 5, _ => f_33
  | 6, _ => f_34
  | 7, _ => f_35
  | 8, _ => f_36
  | k + 9, h => absurd h (by omega)
theorem f_37 : Cond.eq (.elem (.field (tmG 0) "java/lang/String" "value" "[B") (.int (Int32.ofNat 0))) (.int ((bytG.getD 0 []).getD 0 0)) ∈ fC := List.mem_of_getElem? (i := 314) (by decide +kernel)
theorem f_38 : Cond.eq (.elem (.field (tmG 0) "java/lang/String" "value" "[B") (.int (Int32.ofNat 1))) (.int ((bytG.getD 0 []).getD 1 0)) ∈ fC := List.mem_of_getElem? (i := 315) (by decide +kernel)
theorem f_el0 : ∀ j, j < lenG.getD 0 0 → Cond.eq (.elem (.field (tmG 0) "java/lang/String" "value" "[B") (.int (Int32.ofNat j))) (.int ((bytG.getD 0 []).getD j 0)) ∈ fC := fun j hj => match j, hj with
  | 0, _ => f_37
  | 1, _ => f_38
  | k + 2, h => absurd (show k + 2 < 2 from h) (by omega)
theorem f_39 : Cond.eq (.elem (.field (tmG 1) "java/lang/String" "value" "[B") (.int (Int32.ofNat 0))) (.int ((bytG.getD 1 []).getD 0 0)) ∈ fC := List.mem_of_getElem? (i := 328) (by decide +kernel)
theorem f_40 : Cond.eq (.elem (.field (tmG 1) "java/lang/String" "value" "[B") (.int (Int32.ofNat 1))) (.int ((bytG.getD 1 []).getD 1 0)) ∈ fC := List.mem_of_getElem? (i := 329) (by decide +kernel)
theorem f_41 : Cond.eq (.elem (.field (tmG 1) "java/lang/String" "value" "[B") (.int (Int32.ofNat 2))) (.int ((bytG.getD 1 []).getD 2 0)) ∈ fC := List.mem_of_getElem? (i := 330) (by decide +kernel)
theorem f_el1 : ∀ j, j < lenG.getD 1 0 → Cond.eq (.elem (.field (tmG 1) "java/lang/String" "value" "[B") (.int (Int32.ofNat j))) (.int ((bytG.getD 1 []).getD j 0)) ∈ fC := fun j hj => match j, hj with
  | 0, _ => f_39
  | 1, _ => f_40
  | 2, _ => f_41
  | k + 3, h => absurd (show k + 3 < 3 from h) (by omega)
theorem f_42 : Cond.eq (.elem (.field (tmG 2) "java/lang/String" "value" "[B") (.int (Int32.ofNat 0))) (.int ((bytG.getD 2 []).getD 0 0)) ∈ fC := List.mem_of_getElem? (i := 344) (by decide +kernel)
theorem f_43 : Cond.eq (.elem (.field (tmG 2) "java/lang/String" "value" "[B") (.int (Int32.ofNat 1))) (.int ((bytG.getD 2 []).getD 1 0)) ∈ fC := List.mem_of_getElem? (i := 345) (by decide +kernel)
theorem f_44 : Cond.eq (.elem (.field (tmG 2) "java/lang/String" "value" "[B") (.int (Int32.ofNat 2))) (.int ((bytG.getD 2 []).getD 2 0)) ∈ fC := List.mem_of_getElem? (i := 346) (by decide +kernel)
theorem f_45 : Cond.eq (.elem (.field (tmG 2) "java/lang/String" "value" "[B") (.int (Int32.ofNat 3))) (.int ((bytG.getD 2 []).getD 3 0)) ∈ fC := List.mem_of_getElem? (i := 347) (by decide +kernel)
theorem f_el2 : ∀ j, j < lenG.getD 2 0 → Cond.eq (.elem (.field (tmG 2) "java/lang/String" "value" "[B") (.int (Int32.ofNat j))) (.int ((bytG.getD 2 []).getD j 0)) ∈ fC := fun j hj => match j, hj with
  | 0, _ => f_42
  | 1, _ => f_43
  | 2, _ => f_44
  | 3, _ => f_45
  | k + 4, h => absurd (show k + 4 < 4 from h) (by omega)
theorem f_46 : Cond.eq (.elem (.field (tmG 3) "java/lang/String" "value" "[B") (.int (Int32.ofNat 0))) (.int ((bytG.getD 3 []).getD 0 0)) ∈ fC := List.mem_of_getElem? (i := 362) (by decide +kernel)
theorem f_47 : Cond.eq (.elem (.field (tmG 3) "java/lang/String" "value" "[B") (.int (Int32.ofNat 1))) (.int ((bytG.getD 3 []).getD 1 0)) ∈ fC := List.mem_of_getElem? (i := 363) (by decide +kernel)
theorem f_48 : Cond.eq (.elem (.field (tmG 3) "java/lang/String" "value" "[B") (.int (Int32.ofNat 2))) (.int ((bytG.getD 3 []).getD 2 0)) ∈ fC := List.mem_of_getElem? (i := 364) (by decide +kernel)
theorem f_49 : Cond.eq (.elem (.field (tmG 3) "java/lang/String" "value" "[B") (.int (Int32.ofNat 3))) (.int ((bytG.getD 3 []).getD 3 0)) ∈ fC := List.mem_of_getElem? (i := 365) (by decide +kernel)
theorem f_50 : Cond.eq (.elem (.field (tmG 3) "java/lang/String" "value" "[B") (.int (Int32.ofNat 4))) (.int ((bytG.getD 3 []).getD 4 0)) ∈ fC := List.mem_of_getElem? (i := 366) (by decide +kernel)
theorem f_el3 : ∀ j, j < lenG.getD 3 0 → Cond.eq (.elem (.field (tmG 3) "java/lang/String" "value" "[B") (.int (Int32.ofNat j))) (.int ((bytG.getD 3 []).getD j 0)) ∈ fC := fun j hj => match j, hj with
  | 0, _ => f_46
  | 1, _ => f_47
  | 2, _ => f_48
  | 3, _ => f_49
  | 4, _ => f_50
  | k + 5, h => absurd (show k + 5 < 5 from h) (by omega)
theorem f_51 : Cond.eq (.elem (.field (tmG 4) "java/lang/String" "value" "[B") (.int (Int32.ofNat 0))) (.int ((bytG.getD 4 []).getD 0 0)) ∈ fC := List.mem_of_getElem? (i := 382) (by decide +kernel)
theorem f_52 : Cond.eq (.elem (.field (tmG 4) "java/lang/String" "value" "[B") (.int (Int32.ofNat 1))) (.int ((bytG.getD 4 []).getD 1 0)) ∈ fC := List.mem_of_getElem? (i := 383) (by decide +kernel)
theorem f_53 : Cond.eq (.elem (.field (tmG 4) "java/lang/String" "value" "[B") (.int (Int32.ofNat 2))) (.int ((bytG.getD 4 []).getD 2 0)) ∈ fC := List.mem_of_getElem? (i := 384) (by decide +kernel)
theorem f_54 : Cond.eq (.elem (.field (tmG 4) "java/lang/String" "value" "[B") (.int (Int32.ofNat 3))) (.int ((bytG.getD 4 []).getD 3 0)) ∈ fC := List.mem_of_getElem? (i := 385) (by decide +kernel)
theorem f_55 : Cond.eq (.elem (.field (tmG 4) "java/lang/String" "value" "[B") (.int (Int32.ofNat 4))) (.int ((bytG.getD 4 []).getD 4 0)) ∈ fC := List.mem_of_getElem? (i := 386) (by decide +kernel)
theorem f_56 : Cond.eq (.elem (.field (tmG 4) "java/lang/String" "value" "[B") (.int (Int32.ofNat 5))) (.int ((bytG.getD 4 []).getD 5 0)) ∈ fC := List.mem_of_getElem? (i := 387) (by decide +kernel)
theorem f_el4 : ∀ j, j < lenG.getD 4 0 → Cond.eq (.elem (.field (tmG 4) "java/lang/String" "value" "[B") (.int (Int32.ofNat j))) (.int ((bytG.getD 4 []).getD j 0)) ∈ fC := fun j hj => match j, hj with
  | 0, _ => f_51
  | 1, _ => f_52
  | 2, _ => f_53
  | 3, _ => f_54
  | 4, _ => f_55
  | 5, _ => f_56
  | k + 6, h => absurd (show k + 6 < 6 from h) (by omega)
theorem f_57 : Cond.eq (.elem (.field (tmG 5) "java/lang/String" "value" "[B") (.int (Int32.ofNat 0))) (.int ((bytG.getD 5 []).getD 0 0)) ∈ fC := List.mem_of_getElem? (i := 404) (by decide +kernel)
theorem f_58 : Cond.eq (.elem (.field (tmG 5) "java/lang/String" "value" "[B") (.int (Int32.ofNat 1))) (.int ((bytG.getD 5 []).getD 1 0)) ∈ fC := List.mem_of_getElem? (i := 405) (by decide +kernel)
theorem f_59 : Cond.eq (.elem (.field (tmG 5) "java/lang/String" "value" "[B") (.int (Int32.ofNat 2))) (.int ((bytG.getD 5 []).getD 2 0)) ∈ fC := List.mem_of_getElem? (i := 406) (by decide +kernel)
theorem f_60 : Cond.eq (.elem (.field (tmG 5) "java/lang/String" "value" "[B") (.int (Int32.ofNat 3))) (.int ((bytG.getD 5 []).getD 3 0)) ∈ fC := List.mem_of_getElem? (i := 407) (by decide +kernel)
theorem f_61 : Cond.eq (.elem (.field (tmG 5) "java/lang/String" "value" "[B") (.int (Int32.ofNat 4))) (.int ((bytG.getD 5 []).getD 4 0)) ∈ fC := List.mem_of_getElem? (i := 408) (by decide +kernel)
theorem f_62 : Cond.eq (.elem (.field (tmG 5) "java/lang/String" "value" "[B") (.int (Int32.ofNat 5))) (.int ((bytG.getD 5 []).getD 5 0)) ∈ fC := List.mem_of_getElem? (i := 409) (by decide +kernel)
theorem f_el5 : ∀ j, j < lenG.getD 5 0 → Cond.eq (.elem (.field (tmG 5) "java/lang/String" "value" "[B") (.int (Int32.ofNat j))) (.int ((bytG.getD 5 []).getD j 0)) ∈ fC := fun j hj => match j, hj with
  | 0, _ => f_57
  | 1, _ => f_58
  | 2, _ => f_59
  | 3, _ => f_60
  | 4, _ => f_61
  | 5, _ => f_62
  | k + 6, h => absurd (show k + 6 < 6 from h) (by omega)
theorem f_63 : Cond.eq (.elem (.field (tmG 6) "java/lang/String" "value" "[B") (.int (Int32.ofNat 0))) (.int ((bytG.getD 6 []).getD 0 0)) ∈ fC := List.mem_of_getElem? (i := 427) (by decide +kernel)
theorem f_64 : Cond.eq (.elem (.field (tmG 6) "java/lang/String" "value" "[B") (.int (Int32.ofNat 1))) (.int ((bytG.getD 6 []).getD 1 0)) ∈ fC := List.mem_of_getElem? (i := 428) (by decide +kernel)
theorem f_65 : Cond.eq (.elem (.field (tmG 6) "java/lang/String" "value" "[B") (.int (Int32.ofNat 2))) (.int ((bytG.getD 6 []).getD 2 0)) ∈ fC := List.mem_of_getElem? (i := 429) (by decide +kernel)
theorem f_66 : Cond.eq (.elem (.field (tmG 6) "java/lang/String" "value" "[B") (.int (Int32.ofNat 3))) (.int ((bytG.getD 6 []).getD 3 0)) ∈ fC := List.mem_of_getElem? (i := 430) (by decide +kernel)
theorem f_el6 : ∀ j, j < lenG.getD 6 0 → Cond.eq (.elem (.field (tmG 6) "java/lang/String" "value" "[B") (.int (Int32.ofNat j))) (.int ((bytG.getD 6 []).getD j 0)) ∈ fC := fun j hj => match j, hj with
  | 0, _ => f_63
  | 1, _ => f_64
  | 2, _ => f_65
  | 3, _ => f_66
  | k + 4, h => absurd (show k + 4 < 4 from h) (by omega)
theorem f_67 : Cond.eq (.elem (.field (tmG 7) "java/lang/String" "value" "[B") (.int (Int32.ofNat 0))) (.int ((bytG.getD 7 []).getD 0 0)) ∈ fC := List.mem_of_getElem? (i := 449) (by decide +kernel)
theorem f_68 : Cond.eq (.elem (.field (tmG 7) "java/lang/String" "value" "[B") (.int (Int32.ofNat 1))) (.int ((bytG.getD 7 []).getD 1 0)) ∈ fC := List.mem_of_getElem? (i := 450) (by decide +kernel)
theorem f_69 : Cond.eq (.elem (.field (tmG 7) "java/lang/String" "value" "[B") (.int (Int32.ofNat 2))) (.int ((bytG.getD 7 []).getD 2 0)) ∈ fC := List.mem_of_getElem? (i := 451) (by decide +kernel)
theorem f_el7 : ∀ j, j < lenG.getD 7 0 → Cond.eq (.elem (.field (tmG 7) "java/lang/String" "value" "[B") (.int (Int32.ofNat j))) (.int ((bytG.getD 7 []).getD j 0)) ∈ fC := fun j hj => match j, hj with
  | 0, _ => f_67
  | 1, _ => f_68
  | 2, _ => f_69
  | k + 3, h => absurd (show k + 3 < 3 from h) (by omega)
theorem f_70 : Cond.eq (.elem (.field (tmG 8) "java/lang/String" "value" "[B") (.int (Int32.ofNat 0))) (.int ((bytG.getD 8 []).getD 0 0)) ∈ fC := List.mem_of_getElem? (i := 471) (by decide +kernel)
theorem f_71 : Cond.eq (.elem (.field (tmG 8) "java/lang/String" "value" "[B") (.int (Int32.ofNat 1))) (.int ((bytG.getD 8 []).getD 1 0)) ∈ fC := List.mem_of_getElem? (i := 472) (by decide +kernel)
theorem f_72 : Cond.eq (.elem (.field (tmG 8) "java/lang/String" "value" "[B") (.int (Int32.ofNat 2))) (.int ((bytG.getD 8 []).getD 2 0)) ∈ fC := List.mem_of_getElem? (i := 473) (by decide +kernel)
theorem f_73 : Cond.eq (.elem (.field (tmG 8) "java/lang/String" "value" "[B") (.int (Int32.ofNat 3))) (.int ((bytG.getD 8 []).getD 3 0)) ∈ fC := List.mem_of_getElem? (i := 474) (by decide +kernel)
theorem f_74 : Cond.eq (.elem (.field (tmG 8) "java/lang/String" "value" "[B") (.int (Int32.ofNat 4))) (.int ((bytG.getD 8 []).getD 4 0)) ∈ fC := List.mem_of_getElem? (i := 475) (by decide +kernel)
theorem f_el8 : ∀ j, j < lenG.getD 8 0 → Cond.eq (.elem (.field (tmG 8) "java/lang/String" "value" "[B") (.int (Int32.ofNat j))) (.int ((bytG.getD 8 []).getD j 0)) ∈ fC := fun j hj => match j, hj with
  | 0, _ => f_70
  | 1, _ => f_71
  | 2, _ => f_72
  | 3, _ => f_73
  | 4, _ => f_74
  | k + 5, h => absurd (show k + 5 < 5 from h) (by omega)
theorem f_el : ∀ i, i < 9 → ∀ j, j < lenG.getD i 0 → Cond.eq (.elem (.field (tmG i) "java/lang/String" "value" "[B") (.int (Int32.ofNat j))) (.int ((bytG.getD i []).getD j 0)) ∈ fC := fun i hi => match i, hi with
  | 0, _ => f_el0
  | 1, _ => f_el1
  | 2, _ => f_el2
  | 3, _ => f_el3
  | 4, _ => f_el4
  | 5, _ => f_el5
  | 6, _ => f_el6
  | 7, _ => f_el7
  | 8, _ => f_el8
  | k + 9, h => absurd h (by omega)
theorem f_75 : Cond.not (Cond.eq (tmG 0) (tmG 1)) ∈ fC := List.mem_of_getElem? (i := 339) (by decide +kernel)
theorem f_76 : Cond.not (Cond.eq (tmG 0) (tmG 2)) ∈ fC := List.mem_of_getElem? (i := 356) (by decide +kernel)
theorem f_77 : Cond.not (Cond.eq (tmG 0) (tmG 3)) ∈ fC := List.mem_of_getElem? (i := 375) (by decide +kernel)
theorem f_78 : Cond.not (Cond.eq (tmG 0) (tmG 4)) ∈ fC := List.mem_of_getElem? (i := 396) (by decide +kernel)
theorem f_79 : Cond.not (Cond.eq (tmG 0) (tmG 5)) ∈ fC := List.mem_of_getElem? (i := 418) (by decide +kernel)
theorem f_80 : Cond.not (Cond.eq (tmG 0) (tmG 6)) ∈ fC := List.mem_of_getElem? (i := 439) (by decide +kernel)
theorem f_81 : Cond.not (Cond.eq (tmG 0) (tmG 7)) ∈ fC := List.mem_of_getElem? (i := 460) (by decide +kernel)
theorem f_82 : Cond.not (Cond.eq (tmG 0) (tmG 8)) ∈ fC := List.mem_of_getElem? (i := 484) (by decide +kernel)
theorem f_ne0 : ∀ j, j < 9 → 0 ≠ j → Cond.not (Cond.eq (tmG 0) (tmG j)) ∈ fC ∨ Cond.not (Cond.eq (tmG j) (tmG 0)) ∈ fC := fun j hj => match j, hj with
  | 0, _ => fun h => absurd rfl h
  | 1, _ => fun _ => Or.inl f_75
  | 2, _ => fun _ => Or.inl f_76
  | 3, _ => fun _ => Or.inl f_77
  | 4, _ => fun _ => Or.inl f_78
  | 5, _ => fun _ => Or.inl f_79
  | 6, _ => fun _ => Or.inl f_80
  | 7, _ => fun _ => Or.inl f_81
  | 8, _ => fun _ => Or.inl f_82
  | k + 9, h => absurd h (by omega)
theorem f_83 : Cond.not (Cond.eq (tmG 0) (tmG 1)) ∈ fC := List.mem_of_getElem? (i := 339) (by decide +kernel)
theorem f_84 : Cond.not (Cond.eq (tmG 1) (tmG 2)) ∈ fC := List.mem_of_getElem? (i := 357) (by decide +kernel)
theorem f_85 : Cond.not (Cond.eq (tmG 1) (tmG 3)) ∈ fC := List.mem_of_getElem? (i := 376) (by decide +kernel)
theorem f_86 : Cond.not (Cond.eq (tmG 1) (tmG 4)) ∈ fC := List.mem_of_getElem? (i := 397) (by decide +kernel)
theorem f_87 : Cond.not (Cond.eq (tmG 1) (tmG 5)) ∈ fC := List.mem_of_getElem? (i := 419) (by decide +kernel)
theorem f_88 : Cond.not (Cond.eq (tmG 1) (tmG 6)) ∈ fC := List.mem_of_getElem? (i := 440) (by decide +kernel)
theorem f_89 : Cond.not (Cond.eq (tmG 1) (tmG 7)) ∈ fC := List.mem_of_getElem? (i := 461) (by decide +kernel)
theorem f_90 : Cond.not (Cond.eq (tmG 1) (tmG 8)) ∈ fC := List.mem_of_getElem? (i := 485) (by decide +kernel)
theorem f_ne1 : ∀ j, j < 9 → 1 ≠ j → Cond.not (Cond.eq (tmG 1) (tmG j)) ∈ fC ∨ Cond.not (Cond.eq (tmG j) (tmG 1)) ∈ fC := fun j hj => match j, hj with
  | 0, _ => fun _ => Or.inr f_83
  | 1, _ => fun h => absurd rfl h
  | 2, _ => fun _ => Or.inl f_84
  | 3, _ => fun _ => Or.inl f_85
  | 4, _ => fun _ => Or.inl f_86
  | 5, _ => fun _ => Or.inl f_87
  | 6, _ => fun _ => Or.inl f_88
  | 7, _ => fun _ => Or.inl f_89
  | 8, _ => fun _ => Or.inl f_90
  | k + 9, h => absurd h (by omega)
theorem f_91 : Cond.not (Cond.eq (tmG 0) (tmG 2)) ∈ fC := List.mem_of_getElem? (i := 356) (by decide +kernel)
theorem f_92 : Cond.not (Cond.eq (tmG 1) (tmG 2)) ∈ fC := List.mem_of_getElem? (i := 357) (by decide +kernel)
theorem f_93 : Cond.not (Cond.eq (tmG 2) (tmG 3)) ∈ fC := List.mem_of_getElem? (i := 377) (by decide +kernel)
theorem f_94 : Cond.not (Cond.eq (tmG 2) (tmG 4)) ∈ fC := List.mem_of_getElem? (i := 398) (by decide +kernel)
theorem f_95 : Cond.not (Cond.eq (tmG 2) (tmG 5)) ∈ fC := List.mem_of_getElem? (i := 420) (by decide +kernel)
theorem f_96 : Cond.not (Cond.eq (tmG 2) (tmG 6)) ∈ fC := List.mem_of_getElem? (i := 441) (by decide +kernel)
theorem f_97 : Cond.not (Cond.eq (tmG 2) (tmG 7)) ∈ fC := List.mem_of_getElem? (i := 462) (by decide +kernel)
theorem f_98 : Cond.not (Cond.eq (tmG 2) (tmG 8)) ∈ fC := List.mem_of_getElem? (i := 486) (by decide +kernel)
theorem f_ne2 : ∀ j, j < 9 → 2 ≠ j → Cond.not (Cond.eq (tmG 2) (tmG j)) ∈ fC ∨ Cond.not (Cond.eq (tmG j) (tmG 2)) ∈ fC := fun j hj => match j, hj with
  | 0, _ => fun _ => Or.inr f_91
  | 1, _ => fun _ => Or.inr f_92
  | 2, _ => fun h => absurd rfl h
  | 3, _ => fun _ => Or.inl f_93
  | 4, _ => fun _ => Or.inl f_94
  | 5, _ => fun _ => Or.inl f_95
  | 6, _ => fun _ => Or.inl f_96
  | 7, _ => fun _ => Or.inl f_97
  | 8, _ => fun _ => Or.inl f_98
  | k + 9, h => absurd h (by omega)
theorem f_99 : Cond.not (Cond.eq (tmG 0) (tmG 3)) ∈ fC := List.mem_of_getElem? (i := 375) (by decide +kernel)
theorem f_100 : Cond.not (Cond.eq (tmG 1) (tmG 3)) ∈ fC := List.mem_of_getElem? (i := 376) (by decide +kernel)
theorem f_101 : Cond.not (Cond.eq (tmG 2) (tmG 3)) ∈ fC := List.mem_of_getElem? (i := 377) (by decide +kernel)
theorem f_102 : Cond.not (Cond.eq (tmG 3) (tmG 4)) ∈ fC := List.mem_of_getElem? (i := 399) (by decide +kernel)
theorem f_103 : Cond.not (Cond.eq (tmG 3) (tmG 5)) ∈ fC := List.mem_of_getElem? (i := 421) (by decide +kernel)
theorem f_104 : Cond.not (Cond.eq (tmG 3) (tmG 6)) ∈ fC := List.mem_of_getElem? (i := 442) (by decide +kernel)
theorem f_105 : Cond.not (Cond.eq (tmG 3) (tmG 7)) ∈ fC := List.mem_of_getElem? (i := 463) (by decide +kernel)
theorem f_106 : Cond.not (Cond.eq (tmG 3) (tmG 8)) ∈ fC := List.mem_of_getElem? (i := 487) (by decide +kernel)
theorem f_ne3 : ∀ j, j < 9 → 3 ≠ j → Cond.not (Cond.eq (tmG 3) (tmG j)) ∈ fC ∨ Cond.not (Cond.eq (tmG j) (tmG 3)) ∈ fC := fun j hj => match j, hj with
  | 0, _ => fun _ => Or.inr f_99
  | 1, _ => fun _ => Or.inr f_100
  | 2, _ => fun _ => Or.inr f_101
  | 3, _ => fun h => absurd rfl h
  | 4, _ => fun _ => Or.inl f_102
  | 5, _ => fun _ => Or.inl f_103
  | 6, _ => fun _ => Or.inl f_104
  | 7, _ => fun _ => Or.inl f_105
  | 8, _ => fun _ => Or.inl f_106
  | k + 9, h => absurd h (by omega)
theorem f_107 : Cond.not (Cond.eq (tmG 0) (tmG 4)) ∈ fC := List.mem_of_getElem? (i := 396) (by decide +kernel)
theorem f_108 : Cond.not (Cond.eq (tmG 1) (tmG 4)) ∈ fC := List.mem_of_getElem? (i := 397) (by decide +kernel)
theorem f_109 : Cond.not (Cond.eq (tmG 2) (tmG 4)) ∈ fC := List.mem_of_getElem? (i := 398) (by decide +kernel)
theorem f_110 : Cond.not (Cond.eq (tmG 3) (tmG 4)) ∈ fC := List.mem_of_getElem? (i := 399) (by decide +kernel)
theorem f_111 : Cond.not (Cond.eq (tmG 4) (tmG 5)) ∈ fC := List.mem_of_getElem? (i := 422) (by decide +kernel)
theorem f_112 : Cond.not (Cond.eq (tmG 4) (tmG 6)) ∈ fC := List.mem_of_getElem? (i := 443) (by decide +kernel)
theorem f_113 : Cond.not (Cond.eq (tmG 4) (tmG 7)) ∈ fC := List.mem_of_getElem? (i := 464) (by decide +kernel)
theorem f_114 : Cond.not (Cond.eq (tmG 4) (tmG 8)) ∈ fC := List.mem_of_getElem? (i := 488) (by decide +kernel)
theorem f_ne4 : ∀ j, j < 9 → 4 ≠ j → Cond.not (Cond.eq (tmG 4) (tmG j)) ∈ fC ∨ Cond.not (Cond.eq (tmG j) (tmG 4)) ∈ fC := fun j hj => match j, hj with
  | 0, _ => fun _ => Or.inr f_107
  | 1, _ => fun _ => Or.inr f_108
  | 2, _ => fun _ => Or.inr f_109
  | 3, _ => fun _ => Or.inr f_110
  | 4, _ => fun h => absurd rfl h
  | 5, _ => fun _ => Or.inl f_111
  | 6, _ => fun _ => Or.inl f_112
  | 7, _ => fun _ => Or.inl f_113
  | 8, _ => fun _ => Or.inl f_114
  | k + 9, h => absurd h (by omega)
theorem f_115 : Cond.not (Cond.eq (tmG 0) (tmG 5)) ∈ fC := List.mem_of_getElem? (i := 418) (by decide +kernel)
theorem f_116 : Cond.not (Cond.eq (tmG 1) (tmG 5)) ∈ fC := List.mem_of_getElem? (i := 419) (by decide +kernel)
theorem f_117 : Cond.not (Cond.eq (tmG 2) (tmG 5)) ∈ fC := List.mem_of_getElem? (i := 420) (by decide +kernel)
theorem f_118 : Cond.not (Cond.eq (tmG 3) (tmG 5)) ∈ fC := List.mem_of_getElem? (i := 421) (by decide +kernel)
theorem f_119 : Cond.not (Cond.eq (tmG 4) (tmG 5)) ∈ fC := List.mem_of_getElem? (i := 422) (by decide +kernel)
theorem f_120 : Cond.not (Cond.eq (tmG 5) (tmG 6)) ∈ fC := List.mem_of_getElem? (i := 444) (by decide +kernel)
theorem f_121 : Cond.not (Cond.eq (tmG 5) (tmG 7)) ∈ fC := List.mem_of_getElem? (i := 465) (by decide +kernel)
theorem f_122 : Cond.not (Cond.eq (tmG 5) (tmG 8)) ∈ fC := List.mem_of_getElem? (i := 489) (by decide +kernel)
theorem f_ne5 : ∀ j, j < 9 → 5 ≠ j → Cond.not (Cond.eq (tmG 5) (tmG j)) ∈ fC ∨ Cond.not (Cond.eq (tmG j) (tmG 5)) ∈ fC := fun j hj => match j, hj with
  | 0, _ => fun _ => Or.inr f_115
  | 1, _ => fun _ => Or.inr f_116
  | 2, _ => fun _ => Or.inr f_117
  | 3, _ => fun _ => Or.inr f_118
  | 4, _ => fun _ => Or.inr f_119
  | 5, _ => fun h => absurd rfl h
  | 6, _ => fun _ => Or.inl f_120
  | 7, _ => fun _ => Or.inl f_121
  | 8, _ => fun _ => Or.inl f_122
  | k + 9, h => absurd h (by omega)
theorem f_123 : Cond.not (Cond.eq (tmG 0) (tmG 6)) ∈ fC := List.mem_of_getElem? (i := 439) (by decide +kernel)
theorem f_124 : Cond.not (Cond.eq (tmG 1) (tmG 6)) ∈ fC := List.mem_of_getElem? (i := 440) (by decide +kernel)
theorem f_125 : Cond.not (Cond.eq (tmG 2) (tmG 6)) ∈ fC := List.mem_of_getElem? (i := 441) (by decide +kernel)
theorem f_126 : Cond.not (Cond.eq (tmG 3) (tmG 6)) ∈ fC := List.mem_of_getElem? (i := 442) (by decide +kernel)
theorem f_127 : Cond.not (Cond.eq (tmG 4) (tmG 6)) ∈ fC := List.mem_of_getElem? (i := 443) (by decide +kernel)
theorem f_128 : Cond.not (Cond.eq (tmG 5) (tmG 6)) ∈ fC := List.mem_of_getElem? (i := 444) (by decide +kernel)
theorem f_129 : Cond.not (Cond.eq (tmG 6) (tmG 7)) ∈ fC := List.mem_of_getElem? (i := 466) (by decide +kernel)
theorem f_130 : Cond.not (Cond.eq (tmG 6) (tmG 8)) ∈ fC := List.mem_of_getElem? (i := 490) (by decide +kernel)
theorem f_ne6 : ∀ j, j < 9 → 6 ≠ j → Cond.not (Cond.eq (tmG 6) (tmG j)) ∈ fC ∨ Cond.not (Cond.eq (tmG j) (tmG 6)) ∈ fC := fun j hj => match j, hj with
  | 0, _ => fun _ => Or.inr f_123
  | 1, _ => fun _ => Or.inr f_124
  | 2, _ => fun _ => Or.inr f_125
  | 3, _ => fun _ => Or.inr f_126
  | 4, _ => fun _ => Or.inr f_127
  | 5, _ => fun _ => Or.inr f_128
  | 6, _ => fun h => absurd rfl h
  | 7, _ => fun _ => Or.inl f_129
  | 8, _ => fun _ => Or.inl f_130
  | k + 9, h => absurd h (by omega)
theorem f_131 : Cond.not (Cond.eq (tmG 0) (tmG 7)) ∈ fC := List.mem_of_getElem? (i := 460) (by decide +kernel)
theorem f_132 : Cond.not (Cond.eq (tmG 1) (tmG 7)) ∈ fC := List.mem_of_getElem? (i := 461) (by decide +kernel)
theorem f_133 : Cond.not (Cond.eq (tmG 2) (tmG 7)) ∈ fC := List.mem_of_getElem? (i := 462) (by decide +kernel)
theorem f_134 : Cond.not (Cond.eq (tmG 3) (tmG 7)) ∈ fC := List.mem_of_getElem? (i := 463) (by decide +kernel)
theorem f_135 : Cond.not (Cond.eq (tmG 4) (tmG 7)) ∈ fC := List.mem_of_getElem? (i := 464) (by decide +kernel)
theorem f_136 : Cond.not (Cond.eq (tmG 5) (tmG 7)) ∈ fC := List.mem_of_getElem? (i := 465) (by decide +kernel)
theorem f_137 : Cond.not (Cond.eq (tmG 6) (tmG 7)) ∈ fC := List.mem_of_getElem? (i := 466) (by decide +kernel)
theorem f_138 : Cond.not (Cond.eq (tmG 7) (tmG 8)) ∈ fC := List.mem_of_getElem? (i := 491) (by decide +kernel)
theorem f_ne7 : ∀ j, j < 9 → 7 ≠ j → Cond.not (Cond.eq (tmG 7) (tmG j)) ∈ fC ∨ Cond.not (Cond.eq (tmG j) (tmG 7)) ∈ fC := fun j hj => match j, hj with
  | 0, _ => fun _ => Or.inr f_131
  | 1, _ => fun _ => Or.inr f_132
  | 2, _ => fun _ => Or.inr f_133
  | 3, _ => fun _ => Or.inr f_134
  | 4, _ => fun _ => Or.inr f_135
  | 5, _ => fun _ => Or.inr f_136
  | 6, _ => fun _ => Or.inr f_137
  | 7, _ => fun h => absurd rfl h
  | 8, _ => fun _ => Or.inl f_138
  | k + 9, h => absurd h (by omega)
theorem f_139 : Cond.not (Cond.eq (tmG 0) (tmG 8)) ∈ fC := List.mem_of_getElem? (i := 484) (by decide +kernel)
theorem f_140 : Cond.not (Cond.eq (tmG 1) (tmG 8)) ∈ fC := List.mem_of_getElem? (i := 485) (by decide +kernel)
theorem f_141 : Cond.not (Cond.eq (tmG 2) (tmG 8)) ∈ fC := List.mem_of_getElem? (i := 486) (by decide +kernel)
theorem f_142 : Cond.not (Cond.eq (tmG 3) (tmG 8)) ∈ fC := List.mem_of_getElem? (i := 487) (by decide +kernel)
theorem f_143 : Cond.not (Cond.eq (tmG 4) (tmG 8)) ∈ fC := List.mem_of_getElem? (i := 488) (by decide +kernel)
theorem f_144 : Cond.not (Cond.eq (tmG 5) (tmG 8)) ∈ fC := List.mem_of_getElem? (i := 489) (by decide +kernel)
theorem f_145 : Cond.not (Cond.eq (tmG 6) (tmG 8)) ∈ fC := List.mem_of_getElem? (i := 490) (by decide +kernel)
theorem f_146 : Cond.not (Cond.eq (tmG 7) (tmG 8)) ∈ fC := List.mem_of_getElem? (i := 491) (by decide +kernel)
theorem f_ne8 : ∀ j, j < 9 → 8 ≠ j → Cond.not (Cond.eq (tmG 8) (tmG j)) ∈ fC ∨ Cond.not (Cond.eq (tmG j) (tmG 8)) ∈ fC := fun j hj => match j, hj with
  | 0, _ => fun _ => Or.inr f_139
  | 1, _ => fun _ => Or.inr f_140
  | 2, _ => fun _ => Or.inr f_141
  | 3, _ => fun _ => Or.inr f_142
  | 4, _ => fun _ => Or.inr f_143
  | 5, _ => fun _ => Or.inr f_144
  | 6, _ => fun _ => Or.inr f_145
  | 7, _ => fun _ => Or.inr f_146
  | 8, _ => fun h => absurd rfl h
  | k + 9, h => absurd h (by omega)
theorem f_ne : ∀ i, i < 9 → ∀ j, j < 9 → i ≠ j → Cond.not (Cond.eq (tmG i) (tmG j)) ∈ fC ∨ Cond.not (Cond.eq (tmG j) (tmG i)) ∈ fC := fun i hi => match i, hi with
  | 0, _ => f_ne0
  | 1, _ => f_ne1
  | 2, _ => f_ne2
  | 3, _ => f_ne3
  | 4, _ => f_ne4
  | 5, _ => f_ne5
  | 6, _ => f_ne6
  | 7, _ => f_ne7
  | 8, _ => f_ne8
  | k + 9, h => absurd h (by omega)
theorem f_147 : Cond.exactly (.string "LogHunt" 98) "java/lang/String" ∈ fC := List.mem_of_getElem? (i := 81) (by decide +kernel)
theorem f_148 : Cond.exactly (.string "LogHunt" 120) "java/lang/String" ∈ fC := List.mem_of_getElem? (i := 118) (by decide +kernel)
theorem f_149 : Cond.exactly (.string "LogHunt" 122) "java/lang/String" ∈ fC := List.mem_of_getElem? (i := 155) (by decide +kernel)
theorem f_150 : Cond.exactly (.string "LogHunt" 133) "java/lang/String" ∈ fC := List.mem_of_getElem? (i := 185) (by decide +kernel)
theorem f_151 : Cond.exactly (.string "LogHunt" 265) "java/lang/String" ∈ fC := List.mem_of_getElem? (i := 210) (by decide +kernel)
theorem f_152 : Cond.exactly (.string "LogHunt" 172) "java/lang/String" ∈ fC := List.mem_of_getElem? (i := 229) (by decide +kernel)
theorem f_153 : Cond.exactly (.string "LogHunt" 177) "java/lang/String" ∈ fC := List.mem_of_getElem? (i := 261) (by decide +kernel)
theorem f_154 : Cond.exactly (.string "LogHunt" 180) "java/lang/String" ∈ fC := List.mem_of_getElem? (i := 285) (by decide +kernel)
theorem f_155 : Cond.exactly (.string "LogHunt" 189) "java/lang/String" ∈ fC := List.mem_of_getElem? (i := 492) (by decide +kernel)
theorem f_156 : Cond.exactly (.string "LogHunt" 196) "java/lang/String" ∈ fC := List.mem_of_getElem? (i := 530) (by decide +kernel)
theorem f_157 : Cond.exactly (.string "LogHunt" 202) "java/lang/String" ∈ fC := List.mem_of_getElem? (i := 591) (by decide +kernel)
theorem f_158 : Cond.exactly (.string "LogHunt" 267) "java/lang/String" ∈ fC := List.mem_of_getElem? (i := 635) (by decide +kernel)
theorem f_159 : Cond.exactly (.string "LogHunt" 224) "java/lang/String" ∈ fC := List.mem_of_getElem? (i := 675) (by decide +kernel)
theorem f_160 : Cond.exactly (.string "LogHunt" 236) "java/lang/String" ∈ fC := List.mem_of_getElem? (i := 719) (by decide +kernel)
theorem f_ms : ∀ j, j < 14 → Cond.exactly (.string "LogHunt" (ixM.getD j 0)) "java/lang/String" ∈ fC := fun i hi => match i, hi with
  | 0, _ => f_147
  | 1, _ => f_148
  | 2, _ => f_149
  | 3, _ => f_150
  | 4, _ => f_151
  | 5, _ => f_152
  | 6, _ => f_153
  | 7, _ => f_154
  | 8, _ => f_155
  | 9, _ => f_156
  | 10, _ => f_157
  | 11, _ => f_158
  | 12, _ => f_159
  | 13, _ => f_160
  | k + 14, h => absurd h (by omega)
theorem f_cs : Cond.eq (.static "java/lang/String" "COMPACT_STRINGS" "Z") (.int 1) ∈ fC := List.mem_of_getElem? (i := 6) (by decide +kernel)
theorem f_si : Cond.isRef (.static "jdk/internal/util/Preconditions" "SIOOBE_FORMATTER" "Ljava/util/function/BiFunction;") ∈ fC := List.mem_of_getElem? (i := 7) (by decide +kernel)
theorem f_us : Cond.isRef (.static Bundle.tN "UNASSIGNED_STACK" Bundle.steD) ∈ fC := List.mem_of_getElem? (i := 4) (by decide +kernel)
theorem f_ss : Cond.isRef (.static Bundle.tN "SUPPRESSED_SENTINEL" Bundle.listD) ∈ fC := List.mem_of_getElem? (i := 5) (by decide +kernel)
theorem f_UOE_IAE : Cond.not (.castable "java/lang/UnsupportedOperationException" "java/lang/IllegalArgumentException") ∈ fC := List.mem_of_getElem? (i := 20) (by decide +kernel)
theorem f_NSEE_IOOBE : Cond.not (.castable "java/util/NoSuchElementException" "java/lang/IndexOutOfBoundsException") ∈ fC := List.mem_of_getElem? (i := 51) (by decide +kernel)
theorem f_IAE_IOOBE : Cond.not (.castable "java/lang/IllegalArgumentException" "java/lang/IndexOutOfBoundsException") ∈ fC := List.mem_of_getElem? (i := 48) (by decide +kernel)
theorem f_ISE_IOOBE : Cond.not (.castable "java/lang/IllegalStateException" "java/lang/IndexOutOfBoundsException") ∈ fC := List.mem_of_getElem? (i := 52) (by decide +kernel)
theorem f_ISE_IAE : Cond.not (.castable "java/lang/IllegalStateException" "java/lang/IllegalArgumentException") ∈ fC := List.mem_of_getElem? (i := 24) (by decide +kernel)
theorem f_UOE_IOOBE : Cond.not (.castable "java/lang/UnsupportedOperationException" "java/lang/IndexOutOfBoundsException") ∈ fC := List.mem_of_getElem? (i := 49) (by decide +kernel)
theorem f_UOE_ISE : Cond.not (.castable "java/lang/UnsupportedOperationException" "java/lang/IllegalStateException") ∈ fC := List.mem_of_getElem? (i := 77) (by decide +kernel)
theorem s_rd : ∀ i, i < 9 → Cond.stringRef RX4 (ixG.getD i 0) (txG.getD i "") ∈ lw_tbl := by decide +kernel
theorem s_ms : ∀ j, j < 14 → Cond.stringRef RX8 (ixM.getD j 0) (txM.getD j "") ∈ lw_tbl := by decide +kernel
theorem s_cs : Cond.laysStatic "java/lang/String" "COMPACT_STRINGS" "Z" ∈ lw_tbl ∧ Cond.initialized "java/lang/String" ∈ lw_tbl := by decide +kernel
theorem s_si : Cond.laysStatic "jdk/internal/util/Preconditions" "SIOOBE_FORMATTER" "Ljava/util/function/BiFunction;" ∈ lw_tbl ∧ Cond.initialized "jdk/internal/util/Preconditions" ∈ lw_tbl := by decide +kernel
theorem s_th : Cond.laysStatic Bundle.tN "UNASSIGNED_STACK" Bundle.steD ∈ lw_tbl ∧ Cond.laysStatic Bundle.tN "SUPPRESSED_SENTINEL" Bundle.listD ∈ lw_tbl ∧ Cond.initialized Bundle.tN ∈ lw_tbl := by decide +kernel
section ST
variable {s : State} {args : Array Value}
theorem st_arr {ty : FieldType} (h : (Cond.arrayClass ty).before args s = true) (hp : ∀ C, ty ≠ .object C) : ∃ cA, ArrOfT s cA ty ∧ va_RA s cA ty := by
  obtain ⟨c, k, comp, h1, h2, h3⟩ := Cond.arrayClass_spec h
  refine ⟨c, fun n z => ⟨fun k h => (by cases h), k, h2, comp, h3⟩, ?_⟩
  cases ty with
  | object C => exact absurd rfl (hp C)
  | _ => exact h1
theorem st_obj {C : String} (h : (Cond.arrayOver (.object C)).before args s = true) : ∃ cA, ArrOfT s cA (.object C) ∧ va_RA s cA (.object C) := by
  obtain ⟨comp, c, k, h1, h2, h3, h4, h5⟩ := Cond.arrayOver_spec h
  exact ⟨c, fun n z => ⟨fun k h => (by cases h), k, h3, comp, h4⟩, k, comp, h3, h4, h1, h5⟩
theorem st_arr2 {ty : FieldType} (h : (Cond.arrayOver (.array ty)).before args s = true) : ∃ cA, ArrOfT s cA (.array ty) ∧ va_RA s cA (.array ty) := by
  obtain ⟨comp, c, k, h1, h2, h3, h4, h5⟩ := Jvm.Stand.arrayOver_specB h
  exact ⟨c, fun n z => ⟨fun k h => (by cases h), k, h3, comp, h4⟩, h5⟩
theorem st_ev (hts : ∀ w ∈ lw_tbl, w.before args s = true) : EV s := ⟨va_Nw.of rfl (hts _ wfnX8_186), va_Nw.of rfl (hts _ wfnX8_208), va_Nw.of rfl (hts _ wfnX8_263), va_Nw.of rfl (hts _ wfnX8_241), va_Nw.of rfl (hts _ wmnX8_9), va_Nw.of rfl (hts _ wmnX8_27), va_Nw.of rfl (hts _ wmnX3_17), va_AO.of (hts _ wao_Act), va_AO.of (hts _ wao_Question), va_AO.of (hts _ wao_Step), (hts _ wao_int)⟩
theorem st_k (hts : ∀ w ∈ lw_tbl, w.before args s = true) : ∃ (D : va_G) (cy : Nat → ClassId), va_K D vwCl (tysP cy) s := by
  obtain ⟨c0, iS0, hK0⟩ := u_known (C := RX0) (T := TX0) (N := 9) (n := 9) hts (fun w h => Gw_in (u_inX0 w h)) (hts _ (Gw_in wtX0))
  obtain ⟨c1, iS1, hK1⟩ := u_known (C := RX1) (T := TX1) (N := 8) (n := 8) hts (fun w h => Gw_in (u_inX1 w h)) (hts _ (Gw_in wtX1))
  obtain ⟨c2, iS2, hK2⟩ := u_known (C := RX2) (T := TX2) (N := 5) (n := 5) hts (fun w h => Gw_in (u_inX2 w h)) (hts _ (Gw_in wtX2))
  obtain ⟨c3, iS3, hK3⟩ := u_known (C := RX3) (T := TX3) (N := 8) (n := 8) hts (fun w h => Gw_in (u_inX3 w h)) (hts _ (Gw_in wtX3))
  obtain ⟨c4, iS4, hK4⟩ := u_known (C := RX4) (T := TX4) (N := 6) (n := 6) hts (fun w h => Gw_in (u_inX4 w h)) (hts _ (Gw_in wtX4))
  obtain ⟨c5, iS5, hK5⟩ := u_known (C := RX5) (T := TX5) (N := 8) (n := 8) hts (fun w h => Gw_in (u_inX5 w h)) (hts _ (Gw_in wtX5))
  obtain ⟨c6, iS6, hK6⟩ := u_known (C := RX6) (T := TX6) (N := 16) (n := 16) hts (fun w h => Gw_in (u_inX6 w h)) (hts _ (Gw_in wtX6))
  obtain ⟨c7, iS7, hK7⟩ := u_known (C := RX7) (T := TX7) (N := 2) (n := 2) hts (fun w h => Gw_in (u_inX7 w h)) (hts _ (Gw_in wtX7))
  obtain ⟨c8, iS8, hK8⟩ := u_known (C := RX8) (T := TX8) (N := 16) (n := 16) hts (fun w h => Gw_in (u_inX8 w h)) (hts _ (Gw_in wtX8))
  obtain ⟨c9, iS9, hK9⟩ := u_known (C := RX9) (T := TX9) (N := 42) (n := 42) hts (fun w h => Gw_in (u_inX9 w h)) (hts _ (Gw_in wtX9))
  obtain ⟨y0, z0, w0⟩ := st_arr (ty := .int) (hts _ (Gw_in wac_int)) (fun _ h => by cases h)
  obtain ⟨y1, z1, w1⟩ := st_arr (ty := .boolean) (hts _ (Gw_in wac_boolean)) (fun _ h => by cases h)
  obtain ⟨y2, z2, w2⟩ := st_obj (C := RX0) (hts _ wao_Act)
  obtain ⟨y3, z3, w3⟩ := st_obj (C := RX3) (hts _ wao_Question)
  obtain ⟨y4, z4, w4⟩ := st_obj (C := RX5) (hts _ wao_Step)
  obtain ⟨y5, z5, w5⟩ := st_arr2 (ty := .int) (hts _ wao_int)
  obtain ⟨y6, z6, w6⟩ := st_arr (ty := .long) (hts _ (Gw_in wac_long)) (fun _ h => by cases h)
  refine ⟨(fun k => [c0, c1, c2, c3, c4, c5, c6, c7, c8, c9].getD k c0, fun k => [iS0, iS1, iS2, iS3, iS4, iS5, iS6, iS7, iS8, iS9].getD k iS0), fun k => [y0, y1, y2, y3, y4, y5, y6].getD (k - 10) y0, fun k q hq => ?_, fun k q hq => ?_⟩
  · match k, hq with

    | 0, hq => cases hq; exact hK0
    | 1, hq => cases hq; exact hK1
    | 2, hq => cases hq; exact hK2
    | 3, hq => cases hq; exact hK3
    | 4, hq => cases hq; exact hK4
    | 5, hq => cases hq; exact hK5
    | 6, hq => cases hq; exact hK6
    | 7, hq => cases hq; exact hK7
    | 8, hq => cases hq; exact hK8
    | 9, hq => cases hq; exact hK9
    | k + 10, hq => simp [vwCl] at hq
  · match k, hq with
    | 0, hq => cases hq; exact ⟨z0, w0⟩
    | 1, hq => cases hq; exact ⟨z1, w1⟩
    | 2, hq => cases hq; exact ⟨z2, w2⟩
    | 3, hq => cases hq; exact ⟨z3, w3⟩
    | 4, hq => cases hq; exact ⟨z4, w4⟩
    | 5, hq => cases hq; exact ⟨z5, w5⟩
    | 6, hq => cases hq; exact ⟨z6, w6⟩
    | k + 7, hq => simp [tysP] at hq
theorem st_ex (hts : ∀ w ∈ lw_tbl, w.before args s = true) (hs : ∀ w ∈ fC, w.before args s = true) : ∃ adK adV, EX adK adV (fun q => s.heap.size ≤ q) s := by
  have hA : ∀ a : Nat, a < s.heap.size → ¬ (fun q => s.heap.size ≤ q) a := fun a h h2 => absurd h (Nat.not_lt.mpr h2)
  obtain ⟨adK, adV, h1, h2⟩ := vk_Sof (N := 9) (tm := tmG) (len := lenG) (byt := bytG) (A := fun q => s.heap.size ≤ q) (args := args) (s := s) (fun i _ => lenG_lt i) (fun i hi => hs _ (f_ex i hi)) (fun i hi => hs _ (f_co i hi)) (fun i hi => hs _ (f_ar i hi)) (fun i hi => hs _ (f_le i hi)) (fun i hi j hj => hs _ (f_el i hi j hj)) (fun i j hi hj hij => (f_ne i hi j hj hij).elim (fun h => Or.inl (hs _ h)) (fun h => Or.inr (hs _ h))) hA
  refine ⟨adK, adV, ⟨h1, fun i hi => vk_R.of (hts _ (s_rd i hi)) (h2 i hi), fun j hj => ?_, va_Zof (hts _ s_cs.1) (hts _ s_cs.2) (va_eqi (hs _ f_cs)) hA, va_Zqof (hts _ s_si.1) (hts _ s_si.2) (hs _ f_si) hA, vx_Zqof (hts _ s_th.1) (hts _ s_th.2.2) (hs _ f_us) hA, vx_Zqof (hts _ s_th.2.1) (hts _ s_th.2.2) (hs _ f_ss) hA⟩, fun w hw => ?_⟩
  · obtain ⟨a, c, cA, kA, q1, -⟩ := Cond.exactly_spec (args := args) (first := s) (o := none) (s := s) (idx := []) (t := .string "LogHunt" (ixM.getD j 0)) (cls := "java/lang/String") (hs _ (f_ms j hj))
    exact ⟨a, vk_R.of (hts _ (s_ms j hj)) q1⟩
  · have hc := BW_cd w hw
    have hb := hts w (BW_in w hw)
    cases w <;> first | (simp [isCD] at hc; done) | exact va_Nw.of rfl hb
theorem st_nc (hs : ∀ w ∈ fC, w.before args s = true) : NC s := ⟨va_Nc.of (hs _ f_UOE_IAE), va_Nc.of (hs _ f_NSEE_IOOBE), va_Nc.of (hs _ f_IAE_IOOBE), va_Nc.of (hs _ f_ISE_IOOBE), va_Nc.of (hs _ f_ISE_IAE), va_Nc.of (hs _ f_UOE_IOOBE), va_Nc.of (hs _ f_UOE_ISE)⟩
end ST
set_option maxHeartbeats 4000000 in
set_option maxRecDepth 100000 in
/-- the law's entry, out of its program -/
theorem whole_run {p : Program} {e : Env} {s : State} {m : MethodId} {below : List Frame} {meth : Method} {c : Code} (l : Launch) (hl0 : l.stackTraces = false) {b L : Nat} {xs : Nat → Int32} (C0 : lw_At p s m meth c b L xs) (hw : wL_law L xs) : W p l e room_1 s m #[Value.ref b] below meth c s.heap [] 0 0 (lw_Z below #[Value.ref b] s) (entryFrame m ([Value.ref b] : List Value).toArray 7) := by
  obtain ⟨hx, hb, hr, hml, hown, hts, hX, hbl, hlocks, hgv⟩ := id C0
  have hs := flat_of_before _ hgv
  obtain ⟨D, cy, hK⟩ := st_k hts
  obtain ⟨adK, adV, X⟩ := st_ex hts hs
  have N := st_nc hs
  have B : PB D cy (fun q => s.heap.size ≤ q) s E0 s.heap [] := ⟨fun k q h => (by cases h), ⟨fun i j a b h => (by cases h), fun k q h => (by cases h)⟩, va_S.rf, fun _ h => h, hK, st_ev hts⟩
  have hl := lv_entry ([.ref b]) (n := 7) (Nat.le_of_ble_eq_true rfl)
  rw [lg_entry_eq]
  exact tL_law (D := D) (cy := cy) (adK := adK) (adV := adV) ⟨hx, hb, hml, hown, fun w hw => hts w (Gw_in hw)⟩ hr hlocks hX hbl X N hl0 _ _ _ hw B hl
