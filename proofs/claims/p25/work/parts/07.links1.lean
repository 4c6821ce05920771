theorem fX3_30 : FLink RX3 30 3 5 := ⟨by decide, by decide, lw_in (List.mem_of_getElem? (i := 180) (by decide +kernel)) rfl, rfl⟩
theorem fX5_67 : FLink RX5 67 3 5 := ⟨by decide, by decide, lw_in (List.mem_of_getElem? (i := 181) (by decide +kernel)) rfl, rfl⟩
theorem fX3_33 : FLink RX3 33 3 6 := ⟨by decide, by decide, lw_in (List.mem_of_getElem? (i := 182) (by decide +kernel)) rfl, rfl⟩
theorem fX3_36 : FLink RX3 36 3 7 := ⟨by decide, by decide, lw_in (List.mem_of_getElem? (i := 183) (by decide +kernel)) rfl, rfl⟩
theorem fX3_39 : FLink RX3 39 3 8 := ⟨by decide, by decide, lw_in (List.mem_of_getElem? (i := 184) (by decide +kernel)) rfl, rfl⟩
theorem fX5_12 : FLink RX5 12 5 0 := ⟨by decide, by decide, lw_in (List.mem_of_getElem? (i := 205) (by decide +kernel)) rfl, rfl⟩
theorem fX5_16 : FLink RX5 16 5 1 := ⟨by decide, by decide, lw_in (List.mem_of_getElem? (i := 206) (by decide +kernel)) rfl, rfl⟩
theorem fX5_19 : FLink RX5 19 5 2 := ⟨by decide, by decide, lw_in (List.mem_of_getElem? (i := 207) (by decide +kernel)) rfl, rfl⟩
theorem fX5_22 : FLink RX5 22 5 3 := ⟨by decide, by decide, lw_in (List.mem_of_getElem? (i := 208) (by decide +kernel)) rfl, rfl⟩
theorem fX5_100 : FLink RX5 100 5 4 := ⟨by decide, by decide, lw_in (List.mem_of_getElem? (i := 209) (by decide +kernel)) rfl, rfl⟩
theorem fX5_26 : FLink RX5 26 5 6 := ⟨by decide, by decide, lw_in (List.mem_of_getElem? (i := 210) (by decide +kernel)) rfl, rfl⟩
theorem fX5_55 : FLink RX5 55 5 7 := ⟨by decide, by decide, lw_in (List.mem_of_getElem? (i := 211) (by decide +kernel)) rfl, rfl⟩
theorem fX5_33 : FLink RX5 33 5 8 := ⟨by decide, by decide, lw_in (List.mem_of_getElem? (i := 212) (by decide +kernel)) rfl, rfl⟩
theorem fX0_15 : FLink RX0 15 0 0 := ⟨by decide, by decide, lw_in (List.mem_of_getElem? (i := 524) (by decide +kernel)) rfl, rfl⟩
theorem fX4_95 : FLink RX4 95 0 0 := ⟨by decide, by decide, lw_in (List.mem_of_getElem? (i := 525) (by decide +kernel)) rfl, rfl⟩
theorem fX0_31 : FLink RX0 31 0 1 := ⟨by decide, by decide, lw_in (List.mem_of_getElem? (i := 526) (by decide +kernel)) rfl, rfl⟩
theorem fX1_49 : FLink RX1 49 0 1 := ⟨by decide, by decide, lw_in (List.mem_of_getElem? (i := 527) (by decide +kernel)) rfl, rfl⟩
theorem fX2_36 : FLink RX2 36 0 1 := ⟨by decide, by decide, lw_in (List.mem_of_getElem? (i := 528) (by decide +kernel)) rfl, rfl⟩
theorem fX3_82 : FLink RX3 82 0 1 := ⟨by decide, by decide, lw_in (List.mem_of_getElem? (i := 529) (by decide +kernel)) rfl, rfl⟩
theorem fX0_28 : FLink RX0 28 0 2 := ⟨by decide, by decide, lw_in (List.mem_of_getElem? (i := 530) (by decide +kernel)) rfl, rfl⟩
theorem fX3_75 : FLink RX3 75 0 2 := ⟨by decide, by decide, lw_in (List.mem_of_getElem? (i := 531) (by decide +kernel)) rfl, rfl⟩
theorem fX0_9 : FLink RX0 9 0 3 := ⟨by decide, by decide, lw_in (List.mem_of_getElem? (i := 532) (by decide +kernel)) rfl, rfl⟩
theorem fX2_31 : FLink RX2 31 0 3 := ⟨by decide, by decide, lw_in (List.mem_of_getElem? (i := 533) (by decide +kernel)) rfl, rfl⟩
theorem fX3_81 : FLink RX3 81 0 3 := ⟨by decide, by decide, lw_in (List.mem_of_getElem? (i := 534) (by decide +kernel)) rfl, rfl⟩
theorem fX1_61 : FLink RX1 61 0 3 := ⟨by decide, by decide, lw_in (List.mem_of_getElem? (i := 535) (by decide +kernel)) rfl, rfl⟩
theorem fX0_22 : FLink RX0 22 0 4 := ⟨by decide, by decide, lw_in (List.mem_of_getElem? (i := 536) (by decide +kernel)) rfl, rfl⟩
theorem fX1_50 : FLink RX1 50 0 4 := ⟨by decide, by decide, lw_in (List.mem_of_getElem? (i := 537) (by decide +kernel)) rfl, rfl⟩
theorem fX0_18 : FLink RX0 18 0 5 := ⟨by decide, by decide, lw_in (List.mem_of_getElem? (i := 538) (by decide +kernel)) rfl, rfl⟩
theorem fX0_25 : FLink RX0 25 0 6 := ⟨by decide, by decide, lw_in (List.mem_of_getElem? (i := 539) (by decide +kernel)) rfl, rfl⟩
theorem fX1_58 : FLink RX1 58 0 6 := ⟨by decide, by decide, lw_in (List.mem_of_getElem? (i := 540) (by decide +kernel)) rfl, rfl⟩
theorem mlX0_init : MLink mX0_init 1 := ⟨lw_in (List.mem_of_getElem? (i := 522) (by decide +kernel)) rfl, lw_in (List.mem_of_getElem? (i := 11) (by decide +kernel)) rfl, by decide +kernel, by decide +kernel, by decide⟩
theorem mlX0_addPart : MLink mX0_addPart 1 := ⟨lw_in (List.mem_of_getElem? (i := 563) (by decide +kernel)) rfl, lw_in (List.mem_of_getElem? (i := 11) (by decide +kernel)) rfl, by decide +kernel, by decide +kernel, by decide⟩
theorem mlX0_tell : MLink mX0_tell 1 := ⟨lw_in (List.mem_of_getElem? (i := 423) (by decide +kernel)) rfl, lw_in (List.mem_of_getElem? (i := 11) (by decide +kernel)) rfl, by decide +kernel, by decide +kernel, by decide⟩
theorem mlX1_init : MLink mX1_init 0 := ⟨lw_in (List.mem_of_getElem? (i := 37) (by decide +kernel)) rfl, lw_in (List.mem_of_getElem? (i := 8) (by decide +kernel)) rfl, by decide +kernel, by decide +kernel, by decide⟩
theorem mlX1_copyFrom : MLink mX1_copyFrom 1 := ⟨lw_in (List.mem_of_getElem? (i := 251) (by decide +kernel)) rfl, lw_in (List.mem_of_getElem? (i := 8) (by decide +kernel)) rfl, by decide +kernel, by decide +kernel, by decide⟩
theorem mlX1_lineUp : MLink mX1_lineUp 1 := ⟨lw_in (List.mem_of_getElem? (i := 342) (by decide +kernel)) rfl, lw_in (List.mem_of_getElem? (i := 8) (by decide +kernel)) rfl, by decide +kernel, by decide +kernel, by decide⟩
theorem mlX1_takeIn : MLink mX1_takeIn 1 := ⟨lw_in (List.mem_of_getElem? (i := 338) (by decide +kernel)) rfl, lw_in (List.mem_of_getElem? (i := 8) (by decide +kernel)) rfl, by decide +kernel, by decide +kernel, by decide⟩
theorem mlX1_waitingAt : MLink mX1_waitingAt 1 := ⟨lw_in (List.mem_of_getElem? (i := 278) (by decide +kernel)) rfl, lw_in (List.mem_of_getElem? (i := 8) (by decide +kernel)) rfl, by decide +kernel, by decide +kernel, by decide⟩
theorem mlX1_removeFirst : MLink mX1_removeFirst 0 := ⟨lw_in (List.mem_of_getElem? (i := 282) (by decide +kernel)) rfl, lw_in (List.mem_of_getElem? (i := 8) (by decide +kernel)) rfl, by decide +kernel, by decide +kernel, by decide⟩
theorem mlX1_errandsWithin : MLink mX1_errandsWithin 0 := ⟨lw_in (List.mem_of_getElem? (i := 602) (by decide +kernel)) rfl, lw_in (List.mem_of_getElem? (i := 8) (by decide +kernel)) rfl, by decide +kernel, by decide +kernel, by decide⟩
theorem mlX1_isStuck : MLink mX1_isStuck 0 := ⟨lw_in (List.mem_of_getElem? (i := 318) (by decide +kernel)) rfl, lw_in (List.mem_of_getElem? (i := 8) (by decide +kernel)) rfl, by decide +kernel, by decide +kernel, by decide⟩
theorem mlX1_tell : MLink mX1_tell 1 := ⟨lw_in (List.mem_of_getElem? (i := 392) (by decide +kernel)) rfl, lw_in (List.mem_of_getElem? (i := 8) (by decide +kernel)) rfl, by decide +kernel, by decide +kernel, by decide⟩
theorem mlX2_init : MLink mX2_init 0 := ⟨lw_in (List.mem_of_getElem? (i := 88) (by decide +kernel)) rfl, lw_in (List.mem_of_getElem? (i := 9) (by decide +kernel)) rfl, by decide +kernel, by decide +kernel, by decide⟩
theorem mlX2_copyFrom : MLink mX2_copyFrom 1 := ⟨lw_in (List.mem_of_getElem? (i := 259) (by decide +kernel)) rfl, lw_in (List.mem_of_getElem? (i := 9) (by decide +kernel)) rfl, by decide +kernel, by decide +kernel, by decide⟩
theorem mlX2_errands : MLink mX2_errands 0 := ⟨lw_in (List.mem_of_getElem? (i := 408) (by decide +kernel)) rfl, lw_in (List.mem_of_getElem? (i := 9) (by decide +kernel)) rfl, by decide +kernel, by decide +kernel, by decide⟩
theorem mlX2_tell : MLink mX2_tell 2 := ⟨lw_in (List.mem_of_getElem? (i := 404) (by decide +kernel)) rfl, lw_in (List.mem_of_getElem? (i := 9) (by decide +kernel)) rfl, by decide +kernel, by decide +kernel, by decide⟩
theorem mlX3_init : MLink mX3_init 0 := ⟨lw_in (List.mem_of_getElem? (i := 169) (by decide +kernel)) rfl, lw_in (List.mem_of_getElem? (i := 10) (by decide +kernel)) rfl, by decide +kernel, by decide +kernel, by decide⟩
theorem mlX3_countWithin : MLink mX3_countWithin 0 := ⟨lw_in (List.mem_of_getElem? (i := 570) (by decide +kernel)) rfl, lw_in (List.mem_of_getElem? (i := 10) (by decide +kernel)) rfl, by decide +kernel, by decide +kernel, by decide⟩
theorem mlX3_putInPlace : MLink mX3_putInPlace 1 := ⟨lw_in (List.mem_of_getElem? (i := 559) (by decide +kernel)) rfl, lw_in (List.mem_of_getElem? (i := 10) (by decide +kernel)) rfl, by decide +kernel, by decide +kernel, by decide⟩
theorem mlX3_takeHouse : MLink mX3_takeHouse 1 := ⟨lw_in (List.mem_of_getElem? (i := 518) (by decide +kernel)) rfl, lw_in (List.mem_of_getElem? (i := 10) (by decide +kernel)) rfl, by decide +kernel, by decide +kernel, by decide⟩
theorem mlX3_takeDigit : MLink mX3_takeDigit 1 := ⟨lw_in (List.mem_of_getElem? (i := 574) (by decide +kernel)) rfl, lw_in (List.mem_of_getElem? (i := 10) (by decide +kernel)) rfl, by decide +kernel, by decide +kernel, by decide⟩
theorem mlX3_isWorkZero : MLink mX3_isWorkZero 0 := ⟨lw_in (List.mem_of_getElem? (i := 582) (by decide +kernel)) rfl, lw_in (List.mem_of_getElem? (i := 10) (by decide +kernel)) rfl, by decide +kernel, by decide +kernel, by decide⟩
theorem mlX3_takeAfter : MLink mX3_takeAfter 1 := ⟨lw_in (List.mem_of_getElem? (i := 586) (by decide +kernel)) rfl, lw_in (List.mem_of_getElem? (i := 10) (by decide +kernel)) rfl, by decide +kernel, by decide +kernel, by decide⟩
theorem mlX3_takeInWork : MLink mX3_takeInWork 1 := ⟨lw_in (List.mem_of_getElem? (i := 578) (by decide +kernel)) rfl, lw_in (List.mem_of_getElem? (i := 10) (by decide +kernel)) rfl, by decide +kernel, by decide +kernel, by decide⟩
theorem mlX3_take : MLink mX3_take 1 := ⟨lw_in (List.mem_of_getElem? (i := 514) (by decide +kernel)) rfl, lw_in (List.mem_of_getElem? (i := 10) (by decide +kernel)) rfl, by decide +kernel, by decide +kernel, by decide⟩
theorem mlX3_read : MLink mX3_read 2 := ⟨lw_in (List.mem_of_getElem? (i := 510) (by decide +kernel)) rfl, lw_in (List.mem_of_getElem? (i := 10) (by decide +kernel)) rfl, by decide +kernel, by decide +kernel, by decide⟩
theorem mlX3_tell : MLink mX3_tell 1 := ⟨lw_in (List.mem_of_getElem? (i := 590) (by decide +kernel)) rfl, lw_in (List.mem_of_getElem? (i := 10) (by decide +kernel)) rfl, by decide +kernel, by decide +kernel, by decide⟩
theorem mlX4_firstWay : MLink mX4_firstWay 2 := ⟨lw_in (List.mem_of_getElem? (i := 33) (by decide +kernel)) rfl, lw_in (List.mem_of_getElem? (i := 7) (by decide +kernel)) rfl, by decide +kernel, by decide +kernel, by decide⟩
theorem mlX4_init : MLink mX4_init 0 := ⟨lw_in (List.mem_of_getElem? (i := 25) (by decide +kernel)) rfl, lw_in (List.mem_of_getElem? (i := 7) (by decide +kernel)) rfl, by decide +kernel, by decide +kernel, by decide⟩
theorem mlX4_copyWays : MLink mX4_copyWays 1 := ⟨lw_in (List.mem_of_getElem? (i := 247) (by decide +kernel)) rfl, lw_in (List.mem_of_getElem? (i := 7) (by decide +kernel)) rfl, by decide +kernel, by decide +kernel, by decide⟩
