/-! the code words of methods, by their places -/
set_option maxRecDepth 100000 in
theorem xmc_0 : lw_tbl[(xMt 0).2.2.2.2.2.1]? = some (Jvm.Cond.code (xMt 0).1 (xMt 0).2.1 (xMt 0).2.2.1 (xMt 0).2.2.2.1) := rfl
set_option maxRecDepth 100000 in
theorem xmc_1 : lw_tbl[(xMt 1).2.2.2.2.2.1]? = some (Jvm.Cond.code (xMt 1).1 (xMt 1).2.1 (xMt 1).2.2.1 (xMt 1).2.2.2.1) := rfl
set_option maxRecDepth 100000 in
theorem xmc_2 : lw_tbl[(xMt 2).2.2.2.2.2.1]? = some (Jvm.Cond.code (xMt 2).1 (xMt 2).2.1 (xMt 2).2.2.1 (xMt 2).2.2.2.1) := rfl
set_option maxRecDepth 100000 in
theorem xmc_3 : lw_tbl[(xMt 3).2.2.2.2.2.1]? = some (Jvm.Cond.code (xMt 3).1 (xMt 3).2.1 (xMt 3).2.2.1 (xMt 3).2.2.2.1) := rfl
set_option maxRecDepth 100000 in
theorem xmc_4 : lw_tbl[(xMt 4).2.2.2.2.2.1]? = some (Jvm.Cond.code (xMt 4).1 (xMt 4).2.1 (xMt 4).2.2.1 (xMt 4).2.2.2.1) := rfl
set_option maxRecDepth 100000 in
theorem xmc_5 : lw_tbl[(xMt 5).2.2.2.2.2.1]? = some (Jvm.Cond.code (xMt 5).1 (xMt 5).2.1 (xMt 5).2.2.1 (xMt 5).2.2.2.1) := rfl
set_option maxRecDepth 100000 in
theorem xmc_6 : lw_tbl[(xMt 6).2.2.2.2.2.1]? = some (Jvm.Cond.code (xMt 6).1 (xMt 6).2.1 (xMt 6).2.2.1 (xMt 6).2.2.2.1) := rfl
set_option maxRecDepth 100000 in
theorem xmc_7 : lw_tbl[(xMt 7).2.2.2.2.2.1]? = some (Jvm.Cond.code (xMt 7).1 (xMt 7).2.1 (xMt 7).2.2.1 (xMt 7).2.2.2.1) := rfl
set_option maxRecDepth 100000 in
theorem xmc_8 : lw_tbl[(xMt 8).2.2.2.2.2.1]? = some (Jvm.Cond.code (xMt 8).1 (xMt 8).2.1 (xMt 8).2.2.1 (xMt 8).2.2.2.1) := rfl
set_option maxRecDepth 100000 in
theorem xmc_9 : lw_tbl[(xMt 9).2.2.2.2.2.1]? = some (Jvm.Cond.code (xMt 9).1 (xMt 9).2.1 (xMt 9).2.2.1 (xMt 9).2.2.2.1) := rfl
set_option maxRecDepth 100000 in
theorem xmc_10 : lw_tbl[(xMt 10).2.2.2.2.2.1]? = some (Jvm.Cond.code (xMt 10).1 (xMt 10).2.1 (xMt 10).2.2.1 (xMt 10).2.2.2.1) := rfl
set_option maxRecDepth 100000 in
theorem xmc_11 : lw_tbl[(xMt 11).2.2.2.2.2.1]? = some (Jvm.Cond.code (xMt 11).1 (xMt 11).2.1 (xMt 11).2.2.1 (xMt 11).2.2.2.1) := rfl
set_option maxRecDepth 100000 in
theorem xmc_12 : lw_tbl[(xMt 12).2.2.2.2.2.1]? = some (Jvm.Cond.code (xMt 12).1 (xMt 12).2.1 (xMt 12).2.2.1 (xMt 12).2.2.2.1) := rfl
set_option maxRecDepth 100000 in
theorem xmc_13 : lw_tbl[(xMt 13).2.2.2.2.2.1]? = some (Jvm.Cond.code (xMt 13).1 (xMt 13).2.1 (xMt 13).2.2.1 (xMt 13).2.2.2.1) := rfl
set_option maxRecDepth 100000 in
theorem xmc_14 : lw_tbl[(xMt 14).2.2.2.2.2.1]? = some (Jvm.Cond.code (xMt 14).1 (xMt 14).2.1 (xMt 14).2.2.1 (xMt 14).2.2.2.1) := rfl
set_option maxRecDepth 100000 in
theorem xmc_15 : lw_tbl[(xMt 15).2.2.2.2.2.1]? = some (Jvm.Cond.code (xMt 15).1 (xMt 15).2.1 (xMt 15).2.2.1 (xMt 15).2.2.2.1) := rfl
set_option maxRecDepth 100000 in
theorem xmc_16 : lw_tbl[(xMt 16).2.2.2.2.2.1]? = some (Jvm.Cond.code (xMt 16).1 (xMt 16).2.1 (xMt 16).2.2.1 (xMt 16).2.2.2.1) := rfl
set_option maxRecDepth 100000 in
theorem xmc_17 : lw_tbl[(xMt 17).2.2.2.2.2.1]? = some (Jvm.Cond.code (xMt 17).1 (xMt 17).2.1 (xMt 17).2.2.1 (xMt 17).2.2.2.1) := rfl
set_option maxRecDepth 100000 in
theorem xmc_18 : lw_tbl[(xMt 18).2.2.2.2.2.1]? = some (Jvm.Cond.code (xMt 18).1 (xMt 18).2.1 (xMt 18).2.2.1 (xMt 18).2.2.2.1) := rfl
set_option maxRecDepth 100000 in
theorem xmc_19 : lw_tbl[(xMt 19).2.2.2.2.2.1]? = some (Jvm.Cond.code (xMt 19).1 (xMt 19).2.1 (xMt 19).2.2.1 (xMt 19).2.2.2.1) := rfl
set_option maxRecDepth 100000 in
theorem xmc_20 : lw_tbl[(xMt 20).2.2.2.2.2.1]? = some (Jvm.Cond.code (xMt 20).1 (xMt 20).2.1 (xMt 20).2.2.1 (xMt 20).2.2.2.1) := rfl
set_option maxRecDepth 100000 in
theorem xmc_21 : lw_tbl[(xMt 21).2.2.2.2.2.1]? = some (Jvm.Cond.code (xMt 21).1 (xMt 21).2.1 (xMt 21).2.2.1 (xMt 21).2.2.2.1) := rfl
set_option maxRecDepth 100000 in
theorem xmc_22 : lw_tbl[(xMt 22).2.2.2.2.2.1]? = some (Jvm.Cond.code (xMt 22).1 (xMt 22).2.1 (xMt 22).2.2.1 (xMt 22).2.2.2.1) := rfl
set_option maxRecDepth 100000 in
theorem xmc_23 : lw_tbl[(xMt 23).2.2.2.2.2.1]? = some (Jvm.Cond.code (xMt 23).1 (xMt 23).2.1 (xMt 23).2.2.1 (xMt 23).2.2.2.1) := rfl
set_option maxRecDepth 100000 in
theorem xmc_24 : lw_tbl[(xMt 24).2.2.2.2.2.1]? = some (Jvm.Cond.code (xMt 24).1 (xMt 24).2.1 (xMt 24).2.2.1 (xMt 24).2.2.2.1) := rfl
set_option maxRecDepth 100000 in
theorem xmc_25 : lw_tbl[(xMt 25).2.2.2.2.2.1]? = some (Jvm.Cond.code (xMt 25).1 (xMt 25).2.1 (xMt 25).2.2.1 (xMt 25).2.2.2.1) := rfl
set_option maxRecDepth 100000 in
theorem xmc_26 : lw_tbl[(xMt 26).2.2.2.2.2.1]? = some (Jvm.Cond.code (xMt 26).1 (xMt 26).2.1 (xMt 26).2.2.1 (xMt 26).2.2.2.1) := rfl
set_option maxRecDepth 100000 in
theorem xmc_27 : lw_tbl[(xMt 27).2.2.2.2.2.1]? = some (Jvm.Cond.code (xMt 27).1 (xMt 27).2.1 (xMt 27).2.2.1 (xMt 27).2.2.2.1) := rfl
set_option maxRecDepth 100000 in
theorem xmc_28 : lw_tbl[(xMt 28).2.2.2.2.2.1]? = some (Jvm.Cond.code (xMt 28).1 (xMt 28).2.1 (xMt 28).2.2.1 (xMt 28).2.2.2.1) := rfl
set_option maxRecDepth 100000 in
theorem xmc_29 : lw_tbl[(xMt 29).2.2.2.2.2.1]? = some (Jvm.Cond.code (xMt 29).1 (xMt 29).2.1 (xMt 29).2.2.1 (xMt 29).2.2.2.1) := rfl
set_option maxRecDepth 100000 in
theorem xmc_30 : lw_tbl[(xMt 30).2.2.2.2.2.1]? = some (Jvm.Cond.code (xMt 30).1 (xMt 30).2.1 (xMt 30).2.2.1 (xMt 30).2.2.2.1) := rfl
set_option maxRecDepth 100000 in
theorem xmc_31 : lw_tbl[(xMt 31).2.2.2.2.2.1]? = some (Jvm.Cond.code (xMt 31).1 (xMt 31).2.1 (xMt 31).2.2.1 (xMt 31).2.2.2.1) := rfl
set_option maxRecDepth 100000 in
theorem xmc_32 : lw_tbl[(xMt 32).2.2.2.2.2.1]? = some (Jvm.Cond.code (xMt 32).1 (xMt 32).2.1 (xMt 32).2.2.1 (xMt 32).2.2.2.1) := rfl
set_option maxRecDepth 100000 in
theorem xmc_33 : lw_tbl[(xMt 33).2.2.2.2.2.1]? = some (Jvm.Cond.code (xMt 33).1 (xMt 33).2.1 (xMt 33).2.2.1 (xMt 33).2.2.2.1) := rfl
set_option maxRecDepth 100000 in
theorem xmc_34 : lw_tbl[(xMt 34).2.2.2.2.2.1]? = some (Jvm.Cond.code (xMt 34).1 (xMt 34).2.1 (xMt 34).2.2.1 (xMt 34).2.2.2.1) := rfl
set_option maxRecDepth 100000 in
theorem xmc_35 : lw_tbl[(xMt 35).2.2.2.2.2.1]? = some (Jvm.Cond.code (xMt 35).1 (xMt 35).2.1 (xMt 35).2.2.1 (xMt 35).2.2.2.1) := rfl
set_option maxRecDepth 100000 in
theorem xmc_36 : lw_tbl[(xMt 36).2.2.2.2.2.1]? = some (Jvm.Cond.code (xMt 36).1 (xMt 36).2.1 (xMt 36).2.2.1 (xMt 36).2.2.2.1) := rfl
set_option maxRecDepth 100000 in
theorem xmc_37 : lw_tbl[(xMt 37).2.2.2.2.2.1]? = some (Jvm.Cond.code (xMt 37).1 (xMt 37).2.1 (xMt 37).2.2.1 (xMt 37).2.2.2.1) := rfl
set_option maxRecDepth 100000 in
theorem xmc_38 : lw_tbl[(xMt 38).2.2.2.2.2.1]? = some (Jvm.Cond.code (xMt 38).1 (xMt 38).2.1 (xMt 38).2.2.1 (xMt 38).2.2.2.1) := rfl
set_option maxRecDepth 100000 in
theorem xmc_39 : lw_tbl[(xMt 39).2.2.2.2.2.1]? = some (Jvm.Cond.code (xMt 39).1 (xMt 39).2.1 (xMt 39).2.2.1 (xMt 39).2.2.2.1) := rfl
set_option maxRecDepth 100000 in
theorem xmc_40 : lw_tbl[(xMt 40).2.2.2.2.2.1]? = some (Jvm.Cond.code (xMt 40).1 (xMt 40).2.1 (xMt 40).2.2.1 (xMt 40).2.2.2.1) := rfl
set_option maxRecDepth 100000 in
theorem xmc_41 : lw_tbl[(xMt 41).2.2.2.2.2.1]? = some (Jvm.Cond.code (xMt 41).1 (xMt 41).2.1 (xMt 41).2.2.1 (xMt 41).2.2.2.1) := rfl
set_option maxRecDepth 100000 in
theorem xmc_42 : lw_tbl[(xMt 42).2.2.2.2.2.1]? = some (Jvm.Cond.code (xMt 42).1 (xMt 42).2.1 (xMt 42).2.2.1 (xMt 42).2.2.2.1) := rfl
set_option maxRecDepth 100000 in
theorem xmc_43 : lw_tbl[(xMt 43).2.2.2.2.2.1]? = some (Jvm.Cond.code (xMt 43).1 (xMt 43).2.1 (xMt 43).2.2.1 (xMt 43).2.2.2.1) := rfl
set_option maxRecDepth 100000 in
theorem xmc_44 : lw_tbl[(xMt 44).2.2.2.2.2.1]? = some (Jvm.Cond.code (xMt 44).1 (xMt 44).2.1 (xMt 44).2.2.1 (xMt 44).2.2.2.1) := rfl
set_option maxRecDepth 100000 in
theorem xmc_45 : lw_tbl[(xMt 45).2.2.2.2.2.1]? = some (Jvm.Cond.code (xMt 45).1 (xMt 45).2.1 (xMt 45).2.2.1 (xMt 45).2.2.2.1) := rfl
set_option maxRecDepth 100000 in
theorem xmc_46 : lw_tbl[(xMt 46).2.2.2.2.2.1]? = some (Jvm.Cond.code (xMt 46).1 (xMt 46).2.1 (xMt 46).2.2.1 (xMt 46).2.2.2.1) := rfl
set_option maxRecDepth 100000 in
theorem xmc_47 : lw_tbl[(xMt 47).2.2.2.2.2.1]? = some (Jvm.Cond.code (xMt 47).1 (xMt 47).2.1 (xMt 47).2.2.1 (xMt 47).2.2.2.1) := rfl
set_option maxRecDepth 100000 in
theorem xmc_48 : lw_tbl[(xMt 48).2.2.2.2.2.1]? = some (Jvm.Cond.code (xMt 48).1 (xMt 48).2.1 (xMt 48).2.2.1 (xMt 48).2.2.2.1) := rfl
set_option maxRecDepth 100000 in
theorem xmc_49 : lw_tbl[(xMt 49).2.2.2.2.2.1]? = some (Jvm.Cond.code (xMt 49).1 (xMt 49).2.1 (xMt 49).2.2.1 (xMt 49).2.2.2.1) := rfl
set_option maxRecDepth 100000 in
theorem xmc_50 : lw_tbl[(xMt 50).2.2.2.2.2.1]? = some (Jvm.Cond.code (xMt 50).1 (xMt 50).2.1 (xMt 50).2.2.1 (xMt 50).2.2.2.1) := rfl
set_option maxRecDepth 100000 in
theorem xmc_51 : lw_tbl[(xMt 51).2.2.2.2.2.1]? = some (Jvm.Cond.code (xMt 51).1 (xMt 51).2.1 (xMt 51).2.2.1 (xMt 51).2.2.2.1) := rfl
set_option maxRecDepth 100000 in
theorem xmc_52 : lw_tbl[(xMt 52).2.2.2.2.2.1]? = some (Jvm.Cond.code (xMt 52).1 (xMt 52).2.1 (xMt 52).2.2.1 (xMt 52).2.2.2.1) := rfl
set_option maxRecDepth 100000 in
theorem xmc_53 : lw_tbl[(xMt 53).2.2.2.2.2.1]? = some (Jvm.Cond.code (xMt 53).1 (xMt 53).2.1 (xMt 53).2.2.1 (xMt 53).2.2.2.1) := rfl
set_option maxRecDepth 100000 in
theorem xmc_54 : lw_tbl[(xMt 54).2.2.2.2.2.1]? = some (Jvm.Cond.code (xMt 54).1 (xMt 54).2.1 (xMt 54).2.2.1 (xMt 54).2.2.2.1) := rfl
set_option maxRecDepth 100000 in
theorem xmc_55 : lw_tbl[(xMt 55).2.2.2.2.2.1]? = some (Jvm.Cond.code (xMt 55).1 (xMt 55).2.1 (xMt 55).2.2.1 (xMt 55).2.2.2.1) := rfl
set_option maxRecDepth 100000 in
theorem xmc_56 : lw_tbl[(xMt 56).2.2.2.2.2.1]? = some (Jvm.Cond.code (xMt 56).1 (xMt 56).2.1 (xMt 56).2.2.1 (xMt 56).2.2.2.1) := rfl
set_option maxRecDepth 100000 in
theorem xmc_57 : lw_tbl[(xMt 57).2.2.2.2.2.1]? = some (Jvm.Cond.code (xMt 57).1 (xMt 57).2.1 (xMt 57).2.2.1 (xMt 57).2.2.2.1) := rfl
set_option maxRecDepth 100000 in
theorem xmc_58 : lw_tbl[(xMt 58).2.2.2.2.2.1]? = some (Jvm.Cond.code (xMt 58).1 (xMt 58).2.1 (xMt 58).2.2.1 (xMt 58).2.2.2.1) := rfl
set_option maxRecDepth 100000 in
theorem xmc_59 : lw_tbl[(xMt 59).2.2.2.2.2.1]? = some (Jvm.Cond.code (xMt 59).1 (xMt 59).2.1 (xMt 59).2.2.1 (xMt 59).2.2.2.1) := rfl
set_option maxRecDepth 100000 in
theorem xmc_60 : lw_tbl[(xMt 60).2.2.2.2.2.1]? = some (Jvm.Cond.code (xMt 60).1 (xMt 60).2.1 (xMt 60).2.2.1 (xMt 60).2.2.2.1) := rfl
set_option maxRecDepth 100000 in
theorem xmc_61 : lw_tbl[(xMt 61).2.2.2.2.2.1]? = some (Jvm.Cond.code (xMt 61).1 (xMt 61).2.1 (xMt 61).2.2.1 (xMt 61).2.2.2.1) := rfl
set_option maxRecDepth 100000 in
theorem xmc_62 : lw_tbl[(xMt 62).2.2.2.2.2.1]? = some (Jvm.Cond.code (xMt 62).1 (xMt 62).2.1 (xMt 62).2.2.1 (xMt 62).2.2.2.1) := rfl
set_option maxRecDepth 100000 in
theorem xmc_63 : lw_tbl[(xMt 63).2.2.2.2.2.1]? = some (Jvm.Cond.code (xMt 63).1 (xMt 63).2.1 (xMt 63).2.2.1 (xMt 63).2.2.2.1) := rfl
set_option maxRecDepth 100000 in
theorem xmc_64 : lw_tbl[(xMt 64).2.2.2.2.2.1]? = some (Jvm.Cond.code (xMt 64).1 (xMt 64).2.1 (xMt 64).2.2.1 (xMt 64).2.2.2.1) := rfl
set_option maxRecDepth 100000 in
theorem xmc_65 : lw_tbl[(xMt 65).2.2.2.2.2.1]? = some (Jvm.Cond.code (xMt 65).1 (xMt 65).2.1 (xMt 65).2.2.1 (xMt 65).2.2.2.1) := rfl
set_option maxRecDepth 100000 in
theorem xmc_66 : lw_tbl[(xMt 66).2.2.2.2.2.1]? = some (Jvm.Cond.code (xMt 66).1 (xMt 66).2.1 (xMt 66).2.2.1 (xMt 66).2.2.2.1) := rfl
set_option maxRecDepth 100000 in
theorem xmc_67 : lw_tbl[(xMt 67).2.2.2.2.2.1]? = some (Jvm.Cond.code (xMt 67).1 (xMt 67).2.1 (xMt 67).2.2.1 (xMt 67).2.2.2.1) := rfl
set_option maxRecDepth 100000 in
theorem xmc_68 : lw_tbl[(xMt 68).2.2.2.2.2.1]? = some (Jvm.Cond.code (xMt 68).1 (xMt 68).2.1 (xMt 68).2.2.1 (xMt 68).2.2.2.1) := rfl
set_option maxRecDepth 100000 in
theorem xmc_69 : lw_tbl[(xMt 69).2.2.2.2.2.1]? = some (Jvm.Cond.code (xMt 69).1 (xMt 69).2.1 (xMt 69).2.2.1 (xMt 69).2.2.2.1) := rfl
set_option maxRecDepth 100000 in
theorem xmc_70 : lw_tbl[(xMt 70).2.2.2.2.2.1]? = some (Jvm.Cond.code (xMt 70).1 (xMt 70).2.1 (xMt 70).2.2.1 (xMt 70).2.2.2.1) := rfl
set_option maxRecDepth 100000 in
theorem xmc_71 : lw_tbl[(xMt 71).2.2.2.2.2.1]? = some (Jvm.Cond.code (xMt 71).1 (xMt 71).2.1 (xMt 71).2.2.1 (xMt 71).2.2.2.1) := rfl
set_option maxRecDepth 100000 in
theorem xmc_72 : lw_tbl[(xMt 72).2.2.2.2.2.1]? = some (Jvm.Cond.code (xMt 72).1 (xMt 72).2.1 (xMt 72).2.2.1 (xMt 72).2.2.2.1) := rfl
set_option maxRecDepth 100000 in
theorem xmc_73 : lw_tbl[(xMt 73).2.2.2.2.2.1]? = some (Jvm.Cond.code (xMt 73).1 (xMt 73).2.1 (xMt 73).2.2.1 (xMt 73).2.2.2.1) := rfl
set_option maxRecDepth 100000 in
theorem xmc_74 : lw_tbl[(xMt 74).2.2.2.2.2.1]? = some (Jvm.Cond.code (xMt 74).1 (xMt 74).2.1 (xMt 74).2.2.1 (xMt 74).2.2.2.1) := rfl
set_option maxRecDepth 100000 in
theorem xmc_75 : lw_tbl[(xMt 75).2.2.2.2.2.1]? = some (Jvm.Cond.code (xMt 75).1 (xMt 75).2.1 (xMt 75).2.2.1 (xMt 75).2.2.2.1) := rfl
set_option maxRecDepth 100000 in
theorem xmc_76 : lw_tbl[(xMt 76).2.2.2.2.2.1]? = some (Jvm.Cond.code (xMt 76).1 (xMt 76).2.1 (xMt 76).2.2.1 (xMt 76).2.2.2.1) := rfl
set_option maxRecDepth 100000 in
theorem xmc_77 : lw_tbl[(xMt 77).2.2.2.2.2.1]? = some (Jvm.Cond.code (xMt 77).1 (xMt 77).2.1 (xMt 77).2.2.1 (xMt 77).2.2.2.1) := rfl
set_option maxRecDepth 100000 in
theorem xmc_78 : lw_tbl[(xMt 78).2.2.2.2.2.1]? = some (Jvm.Cond.code (xMt 78).1 (xMt 78).2.1 (xMt 78).2.2.1 (xMt 78).2.2.2.1) := rfl
set_option maxRecDepth 100000 in
theorem xmc_79 : lw_tbl[(xMt 79).2.2.2.2.2.1]? = some (Jvm.Cond.code (xMt 79).1 (xMt 79).2.1 (xMt 79).2.2.1 (xMt 79).2.2.2.1) := rfl
set_option maxRecDepth 100000 in
theorem xmc_80 : lw_tbl[(xMt 80).2.2.2.2.2.1]? = some (Jvm.Cond.code (xMt 80).1 (xMt 80).2.1 (xMt 80).2.2.1 (xMt 80).2.2.2.1) := rfl
set_option maxRecDepth 100000 in
theorem xmc_81 : lw_tbl[(xMt 81).2.2.2.2.2.1]? = some (Jvm.Cond.code (xMt 81).1 (xMt 81).2.1 (xMt 81).2.2.1 (xMt 81).2.2.2.1) := rfl
set_option maxRecDepth 100000 in
theorem xmc_82 : lw_tbl[(xMt 82).2.2.2.2.2.1]? = some (Jvm.Cond.code (xMt 82).1 (xMt 82).2.1 (xMt 82).2.2.1 (xMt 82).2.2.2.1) := rfl
set_option maxRecDepth 100000 in
theorem xmc_83 : lw_tbl[(xMt 83).2.2.2.2.2.1]? = some (Jvm.Cond.code (xMt 83).1 (xMt 83).2.1 (xMt 83).2.2.1 (xMt 83).2.2.2.1) := rfl
set_option maxRecDepth 100000 in
theorem xmc_84 : lw_tbl[(xMt 84).2.2.2.2.2.1]? = some (Jvm.Cond.code (xMt 84).1 (xMt 84).2.1 (xMt 84).2.2.1 (xMt 84).2.2.2.1) := rfl
set_option maxRecDepth 100000 in
theorem xmc_85 : lw_tbl[(xMt 85).2.2.2.2.2.1]? = some (Jvm.Cond.code (xMt 85).1 (xMt 85).2.1 (xMt 85).2.2.1 (xMt 85).2.2.2.1) := rfl
set_option maxRecDepth 100000 in
theorem xmc_86 : lw_tbl[(xMt 86).2.2.2.2.2.1]? = some (Jvm.Cond.code (xMt 86).1 (xMt 86).2.1 (xMt 86).2.2.1 (xMt 86).2.2.2.1) := rfl
set_option maxRecDepth 100000 in
theorem xmc_87 : lw_tbl[(xMt 87).2.2.2.2.2.1]? = some (Jvm.Cond.code (xMt 87).1 (xMt 87).2.1 (xMt 87).2.2.1 (xMt 87).2.2.2.1) := rfl
set_option maxRecDepth 100000 in
theorem xmc_88 : lw_tbl[(xMt 88).2.2.2.2.2.1]? = some (Jvm.Cond.code (xMt 88).1 (xMt 88).2.1 (xMt 88).2.2.1 (xMt 88).2.2.2.1) := rfl
set_option maxRecDepth 100000 in
theorem xmc_89 : lw_tbl[(xMt 89).2.2.2.2.2.1]? = some (Jvm.Cond.code (xMt 89).1 (xMt 89).2.1 (xMt 89).2.2.1 (xMt 89).2.2.2.1) := rfl
set_option maxRecDepth 100000 in
theorem xmc_90 : lw_tbl[(xMt 90).2.2.2.2.2.1]? = some (Jvm.Cond.code (xMt 90).1 (xMt 90).2.1 (xMt 90).2.2.1 (xMt 90).2.2.2.1) := rfl
set_option maxRecDepth 100000 in
theorem xmc_91 : lw_tbl[(xMt 91).2.2.2.2.2.1]? = some (Jvm.Cond.code (xMt 91).1 (xMt 91).2.1 (xMt 91).2.2.1 (xMt 91).2.2.2.1) := rfl
set_option maxRecDepth 100000 in
theorem xmc_92 : lw_tbl[(xMt 92).2.2.2.2.2.1]? = some (Jvm.Cond.code (xMt 92).1 (xMt 92).2.1 (xMt 92).2.2.1 (xMt 92).2.2.2.1) := rfl
set_option maxRecDepth 100000 in
theorem xmc_93 : lw_tbl[(xMt 93).2.2.2.2.2.1]? = some (Jvm.Cond.code (xMt 93).1 (xMt 93).2.1 (xMt 93).2.2.1 (xMt 93).2.2.2.1) := rfl
set_option maxRecDepth 100000 in
theorem xmc_94 : lw_tbl[(xMt 94).2.2.2.2.2.1]? = some (Jvm.Cond.code (xMt 94).1 (xMt 94).2.1 (xMt 94).2.2.1 (xMt 94).2.2.2.1) := rfl
set_option maxRecDepth 100000 in
theorem xmc_95 : lw_tbl[(xMt 95).2.2.2.2.2.1]? = some (Jvm.Cond.code (xMt 95).1 (xMt 95).2.1 (xMt 95).2.2.1 (xMt 95).2.2.2.1) := rfl
set_option maxRecDepth 100000 in
theorem xmc_96 : lw_tbl[(xMt 96).2.2.2.2.2.1]? = some (Jvm.Cond.code (xMt 96).1 (xMt 96).2.1 (xMt 96).2.2.1 (xMt 96).2.2.2.1) := rfl
set_option maxRecDepth 100000 in
theorem xmc_97 : lw_tbl[(xMt 97).2.2.2.2.2.1]? = some (Jvm.Cond.code (xMt 97).1 (xMt 97).2.1 (xMt 97).2.2.1 (xMt 97).2.2.2.1) := rfl
set_option maxRecDepth 100000 in
theorem xmc_98 : lw_tbl[(xMt 98).2.2.2.2.2.1]? = some (Jvm.Cond.code (xMt 98).1 (xMt 98).2.1 (xMt 98).2.2.1 (xMt 98).2.2.2.1) := rfl
set_option maxRecDepth 100000 in
theorem xmc_99 : lw_tbl[(xMt 99).2.2.2.2.2.1]? = some (Jvm.Cond.code (xMt 99).1 (xMt 99).2.1 (xMt 99).2.2.1 (xMt 99).2.2.2.1) := rfl
set_option maxRecDepth 100000 in
theorem xmc_100 : lw_tbl[(xMt 100).2.2.2.2.2.1]? = some (Jvm.Cond.code (xMt 100).1 (xMt 100).2.1 (xMt 100).2.2.1 (xMt 100).2.2.2.1) := rfl
set_option maxRecDepth 100000 in
theorem xmc_101 : lw_tbl[(xMt 101).2.2.2.2.2.1]? = some (Jvm.Cond.code (xMt 101).1 (xMt 101).2.1 (xMt 101).2.2.1 (xMt 101).2.2.2.1) := rfl
set_option maxRecDepth 100000 in
theorem xmc_102 : lw_tbl[(xMt 102).2.2.2.2.2.1]? = some (Jvm.Cond.code (xMt 102).1 (xMt 102).2.1 (xMt 102).2.2.1 (xMt 102).2.2.2.1) := rfl
set_option maxRecDepth 100000 in
theorem xmc_103 : lw_tbl[(xMt 103).2.2.2.2.2.1]? = some (Jvm.Cond.code (xMt 103).1 (xMt 103).2.1 (xMt 103).2.2.1 (xMt 103).2.2.2.1) := rfl
set_option maxRecDepth 100000 in
theorem xmc_104 : lw_tbl[(xMt 104).2.2.2.2.2.1]? = some (Jvm.Cond.code (xMt 104).1 (xMt 104).2.1 (xMt 104).2.2.1 (xMt 104).2.2.2.1) := rfl
set_option maxRecDepth 100000 in
theorem xmc_105 : lw_tbl[(xMt 105).2.2.2.2.2.1]? = some (Jvm.Cond.code (xMt 105).1 (xMt 105).2.1 (xMt 105).2.2.1 (xMt 105).2.2.2.1) := rfl
set_option maxRecDepth 100000 in
theorem xmc_106 : lw_tbl[(xMt 106).2.2.2.2.2.1]? = some (Jvm.Cond.code (xMt 106).1 (xMt 106).2.1 (xMt 106).2.2.1 (xMt 106).2.2.2.1) := rfl
set_option maxRecDepth 100000 in
theorem xmc_107 : lw_tbl[(xMt 107).2.2.2.2.2.1]? = some (Jvm.Cond.code (xMt 107).1 (xMt 107).2.1 (xMt 107).2.2.1 (xMt 107).2.2.2.1) := rfl
set_option maxRecDepth 100000 in
theorem xmc_108 : lw_tbl[(xMt 108).2.2.2.2.2.1]? = some (Jvm.Cond.code (xMt 108).1 (xMt 108).2.1 (xMt 108).2.2.1 (xMt 108).2.2.2.1) := rfl
set_option maxRecDepth 100000 in
theorem xmc_109 : lw_tbl[(xMt 109).2.2.2.2.2.1]? = some (Jvm.Cond.code (xMt 109).1 (xMt 109).2.1 (xMt 109).2.2.1 (xMt 109).2.2.2.1) := rfl
set_option maxRecDepth 100000 in
theorem xmc_110 : lw_tbl[(xMt 110).2.2.2.2.2.1]? = some (Jvm.Cond.code (xMt 110).1 (xMt 110).2.1 (xMt 110).2.2.1 (xMt 110).2.2.2.1) := rfl
set_option maxRecDepth 100000 in
theorem xmc_111 : lw_tbl[(xMt 111).2.2.2.2.2.1]? = some (Jvm.Cond.code (xMt 111).1 (xMt 111).2.1 (xMt 111).2.2.1 (xMt 111).2.2.2.1) := rfl
set_option maxRecDepth 100000 in
theorem xmc_112 : lw_tbl[(xMt 112).2.2.2.2.2.1]? = some (Jvm.Cond.code (xMt 112).1 (xMt 112).2.1 (xMt 112).2.2.1 (xMt 112).2.2.2.1) := rfl
set_option maxRecDepth 100000 in
theorem xmc_113 : lw_tbl[(xMt 113).2.2.2.2.2.1]? = some (Jvm.Cond.code (xMt 113).1 (xMt 113).2.1 (xMt 113).2.2.1 (xMt 113).2.2.2.1) := rfl
set_option maxRecDepth 100000 in
theorem xmc_114 : lw_tbl[(xMt 114).2.2.2.2.2.1]? = some (Jvm.Cond.code (xMt 114).1 (xMt 114).2.1 (xMt 114).2.2.1 (xMt 114).2.2.2.1) := rfl
set_option maxRecDepth 100000 in
theorem xmc_115 : lw_tbl[(xMt 115).2.2.2.2.2.1]? = some (Jvm.Cond.code (xMt 115).1 (xMt 115).2.1 (xMt 115).2.2.1 (xMt 115).2.2.2.1) := rfl
set_option maxRecDepth 100000 in
theorem xmc_116 : lw_tbl[(xMt 116).2.2.2.2.2.1]? = some (Jvm.Cond.code (xMt 116).1 (xMt 116).2.1 (xMt 116).2.2.1 (xMt 116).2.2.2.1) := rfl
set_option maxRecDepth 100000 in
theorem xmc_117 : lw_tbl[(xMt 117).2.2.2.2.2.1]? = some (Jvm.Cond.code (xMt 117).1 (xMt 117).2.1 (xMt 117).2.2.1 (xMt 117).2.2.2.1) := rfl
set_option maxRecDepth 100000 in
theorem xmc_118 : lw_tbl[(xMt 118).2.2.2.2.2.1]? = some (Jvm.Cond.code (xMt 118).1 (xMt 118).2.1 (xMt 118).2.2.1 (xMt 118).2.2.2.1) := rfl
set_option maxRecDepth 100000 in
theorem xmc_119 : lw_tbl[(xMt 119).2.2.2.2.2.1]? = some (Jvm.Cond.code (xMt 119).1 (xMt 119).2.1 (xMt 119).2.2.1 (xMt 119).2.2.2.1) := rfl
set_option maxRecDepth 100000 in
theorem xmc_120 : lw_tbl[(xMt 120).2.2.2.2.2.1]? = some (Jvm.Cond.code (xMt 120).1 (xMt 120).2.1 (xMt 120).2.2.1 (xMt 120).2.2.2.1) := rfl
set_option maxRecDepth 100000 in
theorem xmc_121 : lw_tbl[(xMt 121).2.2.2.2.2.1]? = some (Jvm.Cond.code (xMt 121).1 (xMt 121).2.1 (xMt 121).2.2.1 (xMt 121).2.2.2.1) := rfl
set_option maxRecDepth 100000 in
theorem xmc_122 : lw_tbl[(xMt 122).2.2.2.2.2.1]? = some (Jvm.Cond.code (xMt 122).1 (xMt 122).2.1 (xMt 122).2.2.1 (xMt 122).2.2.2.1) := rfl
set_option maxRecDepth 100000 in
theorem xmc_123 : lw_tbl[(xMt 123).2.2.2.2.2.1]? = some (Jvm.Cond.code (xMt 123).1 (xMt 123).2.1 (xMt 123).2.2.1 (xMt 123).2.2.2.1) := rfl
set_option maxRecDepth 100000 in
theorem xmc_124 : lw_tbl[(xMt 124).2.2.2.2.2.1]? = some (Jvm.Cond.code (xMt 124).1 (xMt 124).2.1 (xMt 124).2.2.1 (xMt 124).2.2.2.1) := rfl
set_option maxRecDepth 100000 in
theorem xmc_125 : lw_tbl[(xMt 125).2.2.2.2.2.1]? = some (Jvm.Cond.code (xMt 125).1 (xMt 125).2.1 (xMt 125).2.2.1 (xMt 125).2.2.2.1) := rfl
set_option maxRecDepth 100000 in
theorem xmc_126 : lw_tbl[(xMt 126).2.2.2.2.2.1]? = some (Jvm.Cond.code (xMt 126).1 (xMt 126).2.1 (xMt 126).2.2.1 (xMt 126).2.2.2.1) := rfl
set_option maxRecDepth 100000 in
theorem xmc_127 : lw_tbl[(xMt 127).2.2.2.2.2.1]? = some (Jvm.Cond.code (xMt 127).1 (xMt 127).2.1 (xMt 127).2.2.1 (xMt 127).2.2.2.1) := rfl
set_option maxRecDepth 100000 in
theorem xmc_128 : lw_tbl[(xMt 128).2.2.2.2.2.1]? = some (Jvm.Cond.code (xMt 128).1 (xMt 128).2.1 (xMt 128).2.2.1 (xMt 128).2.2.2.1) := rfl
set_option maxRecDepth 100000 in
theorem xmc_129 : lw_tbl[(xMt 129).2.2.2.2.2.1]? = some (Jvm.Cond.code (xMt 129).1 (xMt 129).2.1 (xMt 129).2.2.1 (xMt 129).2.2.2.1) := rfl
set_option maxRecDepth 100000 in
theorem xmc_130 : lw_tbl[(xMt 130).2.2.2.2.2.1]? = some (Jvm.Cond.code (xMt 130).1 (xMt 130).2.1 (xMt 130).2.2.1 (xMt 130).2.2.2.1) := rfl
set_option maxRecDepth 100000 in
theorem xmc_131 : lw_tbl[(xMt 131).2.2.2.2.2.1]? = some (Jvm.Cond.code (xMt 131).1 (xMt 131).2.1 (xMt 131).2.2.1 (xMt 131).2.2.2.1) := rfl
set_option maxRecDepth 100000 in
theorem xmc_132 : lw_tbl[(xMt 132).2.2.2.2.2.1]? = some (Jvm.Cond.code (xMt 132).1 (xMt 132).2.1 (xMt 132).2.2.1 (xMt 132).2.2.2.1) := rfl
set_option maxRecDepth 100000 in
theorem xmc_133 : lw_tbl[(xMt 133).2.2.2.2.2.1]? = some (Jvm.Cond.code (xMt 133).1 (xMt 133).2.1 (xMt 133).2.2.1 (xMt 133).2.2.2.1) := rfl
set_option maxRecDepth 100000 in
theorem xmc_134 : lw_tbl[(xMt 134).2.2.2.2.2.1]? = some (Jvm.Cond.code (xMt 134).1 (xMt 134).2.1 (xMt 134).2.2.1 (xMt 134).2.2.2.1) := rfl
set_option maxRecDepth 100000 in
theorem xmc_135 : lw_tbl[(xMt 135).2.2.2.2.2.1]? = some (Jvm.Cond.code (xMt 135).1 (xMt 135).2.1 (xMt 135).2.2.1 (xMt 135).2.2.2.1) := rfl
set_option maxRecDepth 100000 in
theorem xmc_136 : lw_tbl[(xMt 136).2.2.2.2.2.1]? = some (Jvm.Cond.code (xMt 136).1 (xMt 136).2.1 (xMt 136).2.2.1 (xMt 136).2.2.2.1) := rfl
set_option maxRecDepth 100000 in
theorem xmc_137 : lw_tbl[(xMt 137).2.2.2.2.2.1]? = some (Jvm.Cond.code (xMt 137).1 (xMt 137).2.1 (xMt 137).2.2.1 (xMt 137).2.2.2.1) := rfl
set_option maxRecDepth 100000 in
theorem xmc_138 : lw_tbl[(xMt 138).2.2.2.2.2.1]? = some (Jvm.Cond.code (xMt 138).1 (xMt 138).2.1 (xMt 138).2.2.1 (xMt 138).2.2.2.1) := rfl
set_option maxRecDepth 100000 in
theorem xmc_139 : lw_tbl[(xMt 139).2.2.2.2.2.1]? = some (Jvm.Cond.code (xMt 139).1 (xMt 139).2.1 (xMt 139).2.2.1 (xMt 139).2.2.2.1) := rfl
set_option maxRecDepth 100000 in
theorem xmc_140 : lw_tbl[(xMt 140).2.2.2.2.2.1]? = some (Jvm.Cond.code (xMt 140).1 (xMt 140).2.1 (xMt 140).2.2.1 (xMt 140).2.2.2.1) := rfl
set_option maxRecDepth 100000 in
theorem xmc_141 : lw_tbl[(xMt 141).2.2.2.2.2.1]? = some (Jvm.Cond.code (xMt 141).1 (xMt 141).2.1 (xMt 141).2.2.1 (xMt 141).2.2.2.1) := rfl
set_option maxRecDepth 100000 in
theorem xmc_142 : lw_tbl[(xMt 142).2.2.2.2.2.1]? = some (Jvm.Cond.code (xMt 142).1 (xMt 142).2.1 (xMt 142).2.2.1 (xMt 142).2.2.2.1) := rfl
set_option maxRecDepth 100000 in
theorem xmc_143 : lw_tbl[(xMt 143).2.2.2.2.2.1]? = some (Jvm.Cond.code (xMt 143).1 (xMt 143).2.1 (xMt 143).2.2.1 (xMt 143).2.2.2.1) := rfl
set_option maxRecDepth 100000 in
theorem xmc_144 : lw_tbl[(xMt 144).2.2.2.2.2.1]? = some (Jvm.Cond.code (xMt 144).1 (xMt 144).2.1 (xMt 144).2.2.1 (xMt 144).2.2.2.1) := rfl
set_option maxRecDepth 100000 in
theorem xmc_145 : lw_tbl[(xMt 145).2.2.2.2.2.1]? = some (Jvm.Cond.code (xMt 145).1 (xMt 145).2.1 (xMt 145).2.2.1 (xMt 145).2.2.2.1) := rfl
set_option maxRecDepth 100000 in
theorem xmc_146 : lw_tbl[(xMt 146).2.2.2.2.2.1]? = some (Jvm.Cond.code (xMt 146).1 (xMt 146).2.1 (xMt 146).2.2.1 (xMt 146).2.2.2.1) := rfl
set_option maxRecDepth 100000 in
theorem xmc_147 : lw_tbl[(xMt 147).2.2.2.2.2.1]? = some (Jvm.Cond.code (xMt 147).1 (xMt 147).2.1 (xMt 147).2.2.1 (xMt 147).2.2.2.1) := rfl
set_option maxRecDepth 100000 in
theorem xmc_148 : lw_tbl[(xMt 148).2.2.2.2.2.1]? = some (Jvm.Cond.code (xMt 148).1 (xMt 148).2.1 (xMt 148).2.2.1 (xMt 148).2.2.2.1) := rfl
set_option maxRecDepth 100000 in
theorem xmc_149 : lw_tbl[(xMt 149).2.2.2.2.2.1]? = some (Jvm.Cond.code (xMt 149).1 (xMt 149).2.1 (xMt 149).2.2.1 (xMt 149).2.2.2.1) := rfl
set_option maxRecDepth 100000 in
theorem xmc_150 : lw_tbl[(xMt 150).2.2.2.2.2.1]? = some (Jvm.Cond.code (xMt 150).1 (xMt 150).2.1 (xMt 150).2.2.1 (xMt 150).2.2.2.1) := rfl
set_option maxRecDepth 100000 in
theorem xmc_151 : lw_tbl[(xMt 151).2.2.2.2.2.1]? = some (Jvm.Cond.code (xMt 151).1 (xMt 151).2.1 (xMt 151).2.2.1 (xMt 151).2.2.2.1) := rfl
set_option maxRecDepth 100000 in
theorem xmc_152 : lw_tbl[(xMt 152).2.2.2.2.2.1]? = some (Jvm.Cond.code (xMt 152).1 (xMt 152).2.1 (xMt 152).2.2.1 (xMt 152).2.2.2.1) := rfl
set_option maxRecDepth 100000 in
theorem xmc_153 : lw_tbl[(xMt 153).2.2.2.2.2.1]? = some (Jvm.Cond.code (xMt 153).1 (xMt 153).2.1 (xMt 153).2.2.1 (xMt 153).2.2.2.1) := rfl
set_option maxRecDepth 100000 in
theorem xmc_154 : lw_tbl[(xMt 154).2.2.2.2.2.1]? = some (Jvm.Cond.code (xMt 154).1 (xMt 154).2.1 (xMt 154).2.2.1 (xMt 154).2.2.2.1) := rfl
theorem xmcode (j : Nat) (hj : j < 155) : lw_tbl[(xMt j).2.2.2.2.2.1]? = some (Jvm.Cond.code (xMt j).1 (xMt j).2.1 (xMt j).2.2.1 (xMt j).2.2.2.1) := by
  rcases Nat.lt_or_ge j 77 with h77 | h77
  · rcases Nat.lt_or_ge j 38 with h38 | h38
    · rcases Nat.lt_or_ge j 19 with h19 | h19
      · rcases Nat.lt_or_ge j 9 with h9 | h9
        · rcases Nat.lt_or_ge j 4 with h4 | h4
          · rcases Nat.lt_or_ge j 2 with h2 | h2
            · rcases Nat.lt_or_ge j 1 with h1 | h1
              · have hz : j = 0 := by omega
                subst hz
                exact xmc_0
              · have hz : j = 1 := by omega
                subst hz
                exact xmc_1
            · rcases Nat.lt_or_ge j 3 with h3 | h3
              · have hz : j = 2 := by omega
                subst hz
                exact xmc_2
              · have hz : j = 3 := by omega
                subst hz
                exact xmc_3
          · rcases Nat.lt_or_ge j 6 with h6 | h6
            · rcases Nat.lt_or_ge j 5 with h5 | h5
              · have hz : j = 4 := by omega
                subst hz
                exact xmc_4
              · have hz : j = 5 := by omega
                subst hz
                exact xmc_5
            · rcases Nat.lt_or_ge j 7 with h7 | h7
              · have hz : j = 6 := by omega
                subst hz
                exact xmc_6
              · rcases Nat.lt_or_ge j 8 with h8 | h8
                · have hz : j = 7 := by omega
                  subst hz
                  exact xmc_7
                · have hz : j = 8 := by omega
                  subst hz
                  exact xmc_8
        · rcases Nat.lt_or_ge j 14 with h14 | h14
          · rcases Nat.lt_or_ge j 11 with h11 | h11
            · rcases Nat.lt_or_ge j 10 with h10 | h10
              · have hz : j = 9 := by omega
                subst hz
                exact xmc_9
              · have hz : j = 10 := by omega
                subst hz
                exact xmc_10
            · rcases Nat.lt_or_ge j 12 with h12 | h12
              · have hz : j = 11 := by omega
                subst hz
                exact xmc_11
              · rcases Nat.lt_or_ge j 13 with h13 | h13
                · have hz : j = 12 := by omega
                  subst hz
                  exact xmc_12
                · have hz : j = 13 := by omega
                  subst hz
                  exact xmc_13
          · rcases Nat.lt_or_ge j 16 with h16 | h16
            · rcases Nat.lt_or_ge j 15 with h15 | h15
              · have hz : j = 14 := by omega
                subst hz
                exact xmc_14
              · have hz : j = 15 := by omega
                subst hz
                exact xmc_15
            · rcases Nat.lt_or_ge j 17 with h17 | h17
              · have hz : j = 16 := by omega
                subst hz
                exact xmc_16
              · rcases Nat.lt_or_ge j 18 with h18 | h18
                · have hz : j = 17 := by omega
                  subst hz
                  exact xmc_17
                · have hz : j = 18 := by omega
                  subst hz
                  exact xmc_18
      · rcases Nat.lt_or_ge j 28 with h28 | h28
        · rcases Nat.lt_or_ge j 23 with h23 | h23
          · rcases Nat.lt_or_ge j 21 with h21 | h21
            · rcases Nat.lt_or_ge j 20 with h20 | h20
              · have hz : j = 19 := by omega
                subst hz
                exact xmc_19
              · have hz : j = 20 := by omega
                subst hz
                exact xmc_20
            · rcases Nat.lt_or_ge j 22 with h22 | h22
              · have hz : j = 21 := by omega
                subst hz
                exact xmc_21
              · have hz : j = 22 := by omega
                subst hz
                exact xmc_22
          · rcases Nat.lt_or_ge j 25 with h25 | h25
            · rcases Nat.lt_or_ge j 24 with h24 | h24
              · have hz : j = 23 := by omega
                subst hz
                exact xmc_23
              · have hz : j = 24 := by omega
                subst hz
                exact xmc_24
            · rcases Nat.lt_or_ge j 26 with h26 | h26
              · have hz : j = 25 := by omega
                subst hz
                exact xmc_25
              · rcases Nat.lt_or_ge j 27 with h27 | h27
                · have hz : j = 26 := by omega
                  subst hz
                  exact xmc_26
                · have hz : j = 27 := by omega
                  subst hz
                  exact xmc_27
        · rcases Nat.lt_or_ge j 33 with h33 | h33
          · rcases Nat.lt_or_ge j 30 with h30 | h30
            · rcases Nat.lt_or_ge j 29 with h29 | h29
              · have hz : j = 28 := by omega
                subst hz
                exact xmc_28
              · have hz : j = 29 := by omega
                subst hz
                exact xmc_29
            · rcases Nat.lt_or_ge j 31 with h31 | h31
              · have hz : j = 30 := by omega
                subst hz
                exact xmc_30
              · rcases Nat.lt_or_ge j 32 with h32 | h32
                · have hz : j = 31 := by omega
                  subst hz
                  exact xmc_31
                · have hz : j = 32 := by omega
                  subst hz
                  exact xmc_32
          · rcases Nat.lt_or_ge j 35 with h35 | h35
            · rcases Nat.lt_or_ge j 34 with h34 | h34
              · have hz : j = 33 := by omega
                subst hz
                exact xmc_33
              · have hz : j = 34 := by omega
                subst hz
                exact xmc_34
            · rcases Nat.lt_or_ge j 36 with h36 | h36
              · have hz : j = 35 := by omega
                subst hz
                exact xmc_35
              · rcases Nat.lt_or_ge j 37 with h37 | h37
                · have hz : j = 36 := by omega
                  subst hz
                  exact xmc_36
                · have hz : j = 37 := by omega
                  subst hz
                  exact xmc_37
    · rcases Nat.lt_or_ge j 57 with h57 | h57
      · rcases Nat.lt_or_ge j 47 with h47 | h47
        · rcases Nat.lt_or_ge j 42 with h42 | h42
          · rcases Nat.lt_or_ge j 40 with h40 | h40
            · rcases Nat.lt_or_ge j 39 with h39 | h39
              · have hz : j = 38 := by omega
                subst hz
                exact xmc_38
              · have hz : j = 39 := by omega
                subst hz
                exact xmc_39
            · rcases Nat.lt_or_ge j 41 with h41 | h41
              · have hz : j = 40 := by omega
                subst hz
                exact xmc_40
              · have hz : j = 41 := by omega
                subst hz
                exact xmc_41
          · rcases Nat.lt_or_ge j 44 with h44 | h44
            · rcases Nat.lt_or_ge j 43 with h43 | h43
              · have hz : j = 42 := by omega
                subst hz
                exact xmc_42
              · have hz : j = 43 := by omega
                subst hz
                exact xmc_43
            · rcases Nat.lt_or_ge j 45 with h45 | h45
              · have hz : j = 44 := by omega
                subst hz
                exact xmc_44
              · rcases Nat.lt_or_ge j 46 with h46 | h46
                · have hz : j = 45 := by omega
                  subst hz
                  exact xmc_45
                · have hz : j = 46 := by omega
                  subst hz
                  exact xmc_46
        · rcases Nat.lt_or_ge j 52 with h52 | h52
          · rcases Nat.lt_or_ge j 49 with h49 | h49
            · rcases Nat.lt_or_ge j 48 with h48 | h48
              · have hz : j = 47 := by omega
                subst hz
                exact xmc_47
              · have hz : j = 48 := by omega
                subst hz
                exact xmc_48
            · rcases Nat.lt_or_ge j 50 with h50 | h50
              · have hz : j = 49 := by omega
                subst hz
                exact xmc_49
              · rcases Nat.lt_or_ge j 51 with h51 | h51
                · have hz : j = 50 := by omega
                  subst hz
                  exact xmc_50
                · have hz : j = 51 := by omega
                  subst hz
                  exact xmc_51
          · rcases Nat.lt_or_ge j 54 with h54 | h54
            · rcases Nat.lt_or_ge j 53 with h53 | h53
              · have hz : j = 52 := by omega
                subst hz
                exact xmc_52
              · have hz : j = 53 := by omega
                subst hz
                exact xmc_53
            · rcases Nat.lt_or_ge j 55 with h55 | h55
              · have hz : j = 54 := by omega
                subst hz
                exact xmc_54
              · rcases Nat.lt_or_ge j 56 with h56 | h56
                · have hz : j = 55 := by omega
                  subst hz
                  exact xmc_55
                · have hz : j = 56 := by omega
                  subst hz
                  exact xmc_56
      · rcases Nat.lt_or_ge j 67 with h67 | h67
        · rcases Nat.lt_or_ge j 62 with h62 | h62
          · rcases Nat.lt_or_ge j 59 with h59 | h59
            · rcases Nat.lt_or_ge j 58 with h58 | h58
              · have hz : j = 57 := by omega
                subst hz
                exact xmc_57
              · have hz : j = 58 := by omega
                subst hz
                exact xmc_58
            · rcases Nat.lt_or_ge j 60 with h60 | h60
              · have hz : j = 59 := by omega
                subst hz
                exact xmc_59
              · rcases Nat.lt_or_ge j 61 with h61 | h61
                · have hz : j = 60 := by omega
                  subst hz
                  exact xmc_60
                · have hz : j = 61 := by omega
                  subst hz
                  exact xmc_61
          · rcases Nat.lt_or_ge j 64 with h64 | h64
            · rcases Nat.lt_or_ge j 63 with h63 | h63
              · have hz : j = 62 := by omega
                subst hz
                exact xmc_62
              · have hz : j = 63 := by omega
                subst hz
                exact xmc_63
            · rcases Nat.lt_or_ge j 65 with h65 | h65
              · have hz : j = 64 := by omega
                subst hz
                exact xmc_64
              · rcases Nat.lt_or_ge j 66 with h66 | h66
                · have hz : j = 65 := by omega
                  subst hz
                  exact xmc_65
                · have hz : j = 66 := by omega
                  subst hz
                  exact xmc_66
        · rcases Nat.lt_or_ge j 72 with h72 | h72
          · rcases Nat.lt_or_ge j 69 with h69 | h69
            · rcases Nat.lt_or_ge j 68 with h68 | h68
              · have hz : j = 67 := by omega
                subst hz
                exact xmc_67
              · have hz : j = 68 := by omega
                subst hz
                exact xmc_68
            · rcases Nat.lt_or_ge j 70 with h70 | h70
              · have hz : j = 69 := by omega
                subst hz
                exact xmc_69
              · rcases Nat.lt_or_ge j 71 with h71 | h71
                · have hz : j = 70 := by omega
                  subst hz
                  exact xmc_70
                · have hz : j = 71 := by omega
                  subst hz
                  exact xmc_71
          · rcases Nat.lt_or_ge j 74 with h74 | h74
            · rcases Nat.lt_or_ge j 73 with h73 | h73
              · have hz : j = 72 := by omega
                subst hz
                exact xmc_72
              · have hz : j = 73 := by omega
                subst hz
                exact xmc_73
            · rcases Nat.lt_or_ge j 75 with h75 | h75
              · have hz : j = 74 := by omega
                subst hz
                exact xmc_74
              · rcases Nat.lt_or_ge j 76 with h76 | h76
                · have hz : j = 75 := by omega
                  subst hz
                  exact xmc_75
                · have hz : j = 76 := by omega
                  subst hz
                  exact xmc_76
  · rcases Nat.lt_or_ge j 116 with h116 | h116
    · rcases Nat.lt_or_ge j 96 with h96 | h96
      · rcases Nat.lt_or_ge j 86 with h86 | h86
        · rcases Nat.lt_or_ge j 81 with h81 | h81
          · rcases Nat.lt_or_ge j 79 with h79 | h79
            · rcases Nat.lt_or_ge j 78 with h78 | h78
              · have hz : j = 77 := by omega
                subst hz
                exact xmc_77
              · have hz : j = 78 := by omega
                subst hz
                exact xmc_78
            · rcases Nat.lt_or_ge j 80 with h80 | h80
              · have hz : j = 79 := by omega
                subst hz
                exact xmc_79
              · have hz : j = 80 := by omega
                subst hz
                exact xmc_80
          · rcases Nat.lt_or_ge j 83 with h83 | h83
            · rcases Nat.lt_or_ge j 82 with h82 | h82
              · have hz : j = 81 := by omega
                subst hz
                exact xmc_81
              · have hz : j = 82 := by omega
                subst hz
                exact xmc_82
            · rcases Nat.lt_or_ge j 84 with h84 | h84
              · have hz : j = 83 := by omega
                subst hz
                exact xmc_83
              · rcases Nat.lt_or_ge j 85 with h85 | h85
                · have hz : j = 84 := by omega
                  subst hz
                  exact xmc_84
                · have hz : j = 85 := by omega
                  subst hz
                  exact xmc_85
        · rcases Nat.lt_or_ge j 91 with h91 | h91
          · rcases Nat.lt_or_ge j 88 with h88 | h88
            · rcases Nat.lt_or_ge j 87 with h87 | h87
              · have hz : j = 86 := by omega
                subst hz
                exact xmc_86
              · have hz : j = 87 := by omega
                subst hz
                exact xmc_87
            · rcases Nat.lt_or_ge j 89 with h89 | h89
              · have hz : j = 88 := by omega
                subst hz
                exact xmc_88
              · rcases Nat.lt_or_ge j 90 with h90 | h90
                · have hz : j = 89 := by omega
                  subst hz
                  exact xmc_89
                · have hz : j = 90 := by omega
                  subst hz
                  exact xmc_90
          · rcases Nat.lt_or_ge j 93 with h93 | h93
            · rcases Nat.lt_or_ge j 92 with h92 | h92
              · have hz : j = 91 := by omega
                subst hz
                exact xmc_91
              · have hz : j = 92 := by omega
                subst hz
                exact xmc_92
            · rcases Nat.lt_or_ge j 94 with h94 | h94
              · have hz : j = 93 := by omega
                subst hz
                exact xmc_93
              · rcases Nat.lt_or_ge j 95 with h95 | h95
                · have hz : j = 94 := by omega
                  subst hz
                  exact xmc_94
                · have hz : j = 95 := by omega
                  subst hz
                  exact xmc_95
      · rcases Nat.lt_or_ge j 106 with h106 | h106
        · rcases Nat.lt_or_ge j 101 with h101 | h101
          · rcases Nat.lt_or_ge j 98 with h98 | h98
            · rcases Nat.lt_or_ge j 97 with h97 | h97
              · have hz : j = 96 := by omega
                subst hz
                exact xmc_96
              · have hz : j = 97 := by omega
                subst hz
                exact xmc_97
            · rcases Nat.lt_or_ge j 99 with h99 | h99
              · have hz : j = 98 := by omega
                subst hz
                exact xmc_98
              · rcases Nat.lt_or_ge j 100 with h100 | h100
                · have hz : j = 99 := by omega
                  subst hz
                  exact xmc_99
                · have hz : j = 100 := by omega
                  subst hz
                  exact xmc_100
          · rcases Nat.lt_or_ge j 103 with h103 | h103
            · rcases Nat.lt_or_ge j 102 with h102 | h102
              · have hz : j = 101 := by omega
                subst hz
                exact xmc_101
              · have hz : j = 102 := by omega
                subst hz
                exact xmc_102
            · rcases Nat.lt_or_ge j 104 with h104 | h104
              · have hz : j = 103 := by omega
                subst hz
                exact xmc_103
              · rcases Nat.lt_or_ge j 105 with h105 | h105
                · have hz : j = 104 := by omega
                  subst hz
                  exact xmc_104
                · have hz : j = 105 := by omega
                  subst hz
                  exact xmc_105
        · rcases Nat.lt_or_ge j 111 with h111 | h111
          · rcases Nat.lt_or_ge j 108 with h108 | h108
            · rcases Nat.lt_or_ge j 107 with h107 | h107
              · have hz : j = 106 := by omega
                subst hz
                exact xmc_106
              · have hz : j = 107 := by omega
                subst hz
                exact xmc_107
            · rcases Nat.lt_or_ge j 109 with h109 | h109
              · have hz : j = 108 := by omega
                subst hz
                exact xmc_108
              · rcases Nat.lt_or_ge j 110 with h110 | h110
                · have hz : j = 109 := by omega
                  subst hz
                  exact xmc_109
                · have hz : j = 110 := by omega
                  subst hz
                  exact xmc_110
          · rcases Nat.lt_or_ge j 113 with h113 | h113
            · rcases Nat.lt_or_ge j 112 with h112 | h112
              · have hz : j = 111 := by omega
                subst hz
                exact xmc_111
              · have hz : j = 112 := by omega
                subst hz
                exact xmc_112
            · rcases Nat.lt_or_ge j 114 with h114 | h114
              · have hz : j = 113 := by omega
                subst hz
                exact xmc_113
              · rcases Nat.lt_or_ge j 115 with h115 | h115
                · have hz : j = 114 := by omega
                  subst hz
                  exact xmc_114
                · have hz : j = 115 := by omega
                  subst hz
                  exact xmc_115
    · rcases Nat.lt_or_ge j 135 with h135 | h135
      · rcases Nat.lt_or_ge j 125 with h125 | h125
        · rcases Nat.lt_or_ge j 120 with h120 | h120
          · rcases Nat.lt_or_ge j 118 with h118 | h118
            · rcases Nat.lt_or_ge j 117 with h117 | h117
              · have hz : j = 116 := by omega
                subst hz
                exact xmc_116
              · have hz : j = 117 := by omega
                subst hz
                exact xmc_117
            · rcases Nat.lt_or_ge j 119 with h119 | h119
              · have hz : j = 118 := by omega
                subst hz
                exact xmc_118
              · have hz : j = 119 := by omega
                subst hz
                exact xmc_119
          · rcases Nat.lt_or_ge j 122 with h122 | h122
            · rcases Nat.lt_or_ge j 121 with h121 | h121
              · have hz : j = 120 := by omega
                subst hz
                exact xmc_120
              · have hz : j = 121 := by omega
                subst hz
                exact xmc_121
            · rcases Nat.lt_or_ge j 123 with h123 | h123
              · have hz : j = 122 := by omega
                subst hz
                exact xmc_122
              · rcases Nat.lt_or_ge j 124 with h124 | h124
                · have hz : j = 123 := by omega
                  subst hz
                  exact xmc_123
                · have hz : j = 124 := by omega
                  subst hz
                  exact xmc_124
        · rcases Nat.lt_or_ge j 130 with h130 | h130
          · rcases Nat.lt_or_ge j 127 with h127 | h127
            · rcases Nat.lt_or_ge j 126 with h126 | h126
              · have hz : j = 125 := by omega
                subst hz
                exact xmc_125
              · have hz : j = 126 := by omega
                subst hz
                exact xmc_126
            · rcases Nat.lt_or_ge j 128 with h128 | h128
              · have hz : j = 127 := by omega
                subst hz
                exact xmc_127
              · rcases Nat.lt_or_ge j 129 with h129 | h129
                · have hz : j = 128 := by omega
                  subst hz
                  exact xmc_128
                · have hz : j = 129 := by omega
                  subst hz
                  exact xmc_129
          · rcases Nat.lt_or_ge j 132 with h132 | h132
            · rcases Nat.lt_or_ge j 131 with h131 | h131
              · have hz : j = 130 := by omega
                subst hz
                exact xmc_130
              · have hz : j = 131 := by omega
                subst hz
                exact xmc_131
            · rcases Nat.lt_or_ge j 133 with h133 | h133
              · have hz : j = 132 := by omega
                subst hz
                exact xmc_132
              · rcases Nat.lt_or_ge j 134 with h134 | h134
                · have hz : j = 133 := by omega
                  subst hz
                  exact xmc_133
                · have hz : j = 134 := by omega
                  subst hz
                  exact xmc_134
      · rcases Nat.lt_or_ge j 145 with h145 | h145
        · rcases Nat.lt_or_ge j 140 with h140 | h140
          · rcases Nat.lt_or_ge j 137 with h137 | h137
            · rcases Nat.lt_or_ge j 136 with h136 | h136
              · have hz : j = 135 := by omega
                subst hz
                exact xmc_135
              · have hz : j = 136 := by omega
                subst hz
                exact xmc_136
            · rcases Nat.lt_or_ge j 138 with h138 | h138
              · have hz : j = 137 := by omega
                subst hz
                exact xmc_137
              · rcases Nat.lt_or_ge j 139 with h139 | h139
                · have hz : j = 138 := by omega
                  subst hz
                  exact xmc_138
                · have hz : j = 139 := by omega
                  subst hz
                  exact xmc_139
          · rcases Nat.lt_or_ge j 142 with h142 | h142
            · rcases Nat.lt_or_ge j 141 with h141 | h141
              · have hz : j = 140 := by omega
                subst hz
                exact xmc_140
              · have hz : j = 141 := by omega
                subst hz
                exact xmc_141
            · rcases Nat.lt_or_ge j 143 with h143 | h143
              · have hz : j = 142 := by omega
                subst hz
                exact xmc_142
              · rcases Nat.lt_or_ge j 144 with h144 | h144
                · have hz : j = 143 := by omega
                  subst hz
                  exact xmc_143
                · have hz : j = 144 := by omega
                  subst hz
                  exact xmc_144
        · rcases Nat.lt_or_ge j 150 with h150 | h150
          · rcases Nat.lt_or_ge j 147 with h147 | h147
            · rcases Nat.lt_or_ge j 146 with h146 | h146
              · have hz : j = 145 := by omega
                subst hz
                exact xmc_145
              · have hz : j = 146 := by omega
                subst hz
                exact xmc_146
            · rcases Nat.lt_or_ge j 148 with h148 | h148
              · have hz : j = 147 := by omega
                subst hz
                exact xmc_147
              · rcases Nat.lt_or_ge j 149 with h149 | h149
                · have hz : j = 148 := by omega
                  subst hz
                  exact xmc_148
                · have hz : j = 149 := by omega
                  subst hz
                  exact xmc_149
          · rcases Nat.lt_or_ge j 152 with h152 | h152
            · rcases Nat.lt_or_ge j 151 with h151 | h151
              · have hz : j = 150 := by omega
                subst hz
                exact xmc_150
              · have hz : j = 151 := by omega
                subst hz
                exact xmc_151
            · rcases Nat.lt_or_ge j 153 with h153 | h153
              · have hz : j = 152 := by omega
                subst hz
                exact xmc_152
              · rcases Nat.lt_or_ge j 154 with h154 | h154
                · have hz : j = 153 := by omega
                  subst hz
                  exact xmc_153
                · have hz : j = 154 := by omega
                  subst hz
                  exact xmc_154
