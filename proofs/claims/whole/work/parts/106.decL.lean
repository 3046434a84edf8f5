theorem dL_scene_0 : decode cL_scene 0 = .ok (.aload_n 2, 1) := by decide +kernel
theorem dL_scene_1 : decode cL_scene 1 = .ok (.iconst 0, 1) := by decide +kernel
theorem dL_scene_2 : decode cL_scene 2 = .ok (.aload_n 0, 1) := by decide +kernel
theorem dL_scene_3 : decode cL_scene 3 = .ok (.iload_n 1, 1) := by decide +kernel
theorem dL_scene_4 : decode cL_scene 4 = .ok (.invokevirtual 7, 3) := by decide +kernel
theorem dL_scene_7 : decode cL_scene 7 = .ok (.i2l, 1) := by decide +kernel
theorem dL_scene_8 : decode cL_scene 8 = .ok (.lastore, 1) := by decide +kernel
theorem dL_scene_9 : decode cL_scene 9 = .ok (.goto 6, 3) := by decide +kernel
theorem dL_scene_12 : decode cL_scene 12 = .ok (.astore_n 3, 1) := by decide +kernel
theorem dL_scene_13 : decode cL_scene 13 = .ok (.iconst 1, 1) := by decide +kernel
theorem dL_scene_14 : decode cL_scene 14 = .ok (.ireturn, 1) := by decide +kernel
theorem dL_scene_15 : decode cL_scene 15 = .ok (.iconst 0, 1) := by decide +kernel
theorem dL_scene_16 : decode cL_scene 16 = .ok (.ireturn, 1) := by decide +kernel
theorem dL_task_0 : decode cL_task 0 = .ok (.aload_n 2, 1) := by decide +kernel
theorem dL_task_1 : decode cL_task 1 = .ok (.iconst 0, 1) := by decide +kernel
theorem dL_task_2 : decode cL_task 2 = .ok (.aload_n 0, 1) := by decide +kernel
theorem dL_task_3 : decode cL_task 3 = .ok (.iload_n 1, 1) := by decide +kernel
theorem dL_task_4 : decode cL_task 4 = .ok (.invokevirtual 15, 3) := by decide +kernel
theorem dL_task_7 : decode cL_task 7 = .ok (.i2l, 1) := by decide +kernel
theorem dL_task_8 : decode cL_task 8 = .ok (.lastore, 1) := by decide +kernel
theorem dL_task_9 : decode cL_task 9 = .ok (.goto 6, 3) := by decide +kernel
theorem dL_task_12 : decode cL_task 12 = .ok (.astore_n 3, 1) := by decide +kernel
theorem dL_task_13 : decode cL_task 13 = .ok (.iconst 1, 1) := by decide +kernel
theorem dL_task_14 : decode cL_task 14 = .ok (.ireturn, 1) := by decide +kernel
theorem dL_task_15 : decode cL_task 15 = .ok (.iconst 0, 1) := by decide +kernel
theorem dL_task_16 : decode cL_task 16 = .ok (.ireturn, 1) := by decide +kernel
theorem dL_law_0 : decode cL_law 0 = .ok (.aload_n 2, 1) := by decide +kernel
theorem dL_law_1 : decode cL_law 1 = .ok (.iconst 0, 1) := by decide +kernel
theorem dL_law_2 : decode cL_law 2 = .ok (.aload_n 0, 1) := by decide +kernel
theorem dL_law_3 : decode cL_law 3 = .ok (.iload_n 1, 1) := by decide +kernel
theorem dL_law_4 : decode cL_law 4 = .ok (.invokevirtual 18, 3) := by decide +kernel
theorem dL_law_7 : decode cL_law 7 = .ok (.i2l, 1) := by decide +kernel
theorem dL_law_8 : decode cL_law 8 = .ok (.lastore, 1) := by decide +kernel
theorem dL_law_9 : decode cL_law 9 = .ok (.goto 6, 3) := by decide +kernel
theorem dL_law_12 : decode cL_law 12 = .ok (.astore_n 3, 1) := by decide +kernel
theorem dL_law_13 : decode cL_law 13 = .ok (.iconst 1, 1) := by decide +kernel
theorem dL_law_14 : decode cL_law 14 = .ok (.ireturn, 1) := by decide +kernel
theorem dL_law_15 : decode cL_law 15 = .ok (.iconst 0, 1) := by decide +kernel
theorem dL_law_16 : decode cL_law 16 = .ok (.ireturn, 1) := by decide +kernel
theorem dL_told_0 : decode cL_told 0 = .ok (.aload_n 3, 1) := by decide +kernel
theorem dL_told_1 : decode cL_told 1 = .ok (.iconst 0, 1) := by decide +kernel
theorem dL_told_2 : decode cL_told 2 = .ok (.aload_n 0, 1) := by decide +kernel
theorem dL_told_3 : decode cL_told 3 = .ok (.iload_n 1, 1) := by decide +kernel
theorem dL_told_4 : decode cL_told 4 = .ok (.iload_n 2, 1) := by decide +kernel
theorem dL_told_5 : decode cL_told 5 = .ok (.invokevirtual 21, 3) := by decide +kernel
theorem dL_told_8 : decode cL_told 8 = .ok (.i2l, 1) := by decide +kernel
theorem dL_told_9 : decode cL_told 9 = .ok (.lastore, 1) := by decide +kernel
theorem dL_told_10 : decode cL_told 10 = .ok (.goto 11, 3) := by decide +kernel
theorem dL_told_13 : decode cL_told 13 = .ok (.astore 4, 2) := by decide +kernel
theorem dL_told_15 : decode cL_told 15 = .ok (.iconst 1, 1) := by decide +kernel
theorem dL_told_16 : decode cL_told 16 = .ok (.ireturn, 1) := by decide +kernel
theorem dL_told_17 : decode cL_told 17 = .ok (.astore 4, 2) := by decide +kernel
theorem dL_told_19 : decode cL_told 19 = .ok (.iconst 2, 1) := by decide +kernel
theorem dL_told_20 : decode cL_told 20 = .ok (.ireturn, 1) := by decide +kernel
theorem dL_told_21 : decode cL_told 21 = .ok (.iconst 0, 1) := by decide +kernel
theorem dL_told_22 : decode cL_told 22 = .ok (.ireturn, 1) := by decide +kernel
theorem dL_thing_0 : decode cL_thing 0 = .ok (.aload 5, 2) := by decide +kernel
theorem dL_thing_2 : decode cL_thing 2 = .ok (.iconst 0, 1) := by decide +kernel
theorem dL_thing_3 : decode cL_thing 3 = .ok (.aload_n 0, 1) := by decide +kernel
theorem dL_thing_4 : decode cL_thing 4 = .ok (.iload_n 1, 1) := by decide +kernel
theorem dL_thing_5 : decode cL_thing 5 = .ok (.iload_n 2, 1) := by decide +kernel
theorem dL_thing_6 : decode cL_thing 6 = .ok (.iload_n 3, 1) := by decide +kernel
theorem dL_thing_7 : decode cL_thing 7 = .ok (.iload 4, 2) := by decide +kernel
theorem dL_thing_9 : decode cL_thing 9 = .ok (.invokevirtual 27, 3) := by decide +kernel
theorem dL_thing_12 : decode cL_thing 12 = .ok (.i2l, 1) := by decide +kernel
theorem dL_thing_13 : decode cL_thing 13 = .ok (.lastore, 1) := by decide +kernel
theorem dL_thing_14 : decode cL_thing 14 = .ok (.goto 11, 3) := by decide +kernel
theorem dL_thing_17 : decode cL_thing 17 = .ok (.astore 6, 2) := by decide +kernel
theorem dL_thing_19 : decode cL_thing 19 = .ok (.iconst 1, 1) := by decide +kernel
theorem dL_thing_20 : decode cL_thing 20 = .ok (.ireturn, 1) := by decide +kernel
theorem dL_thing_21 : decode cL_thing 21 = .ok (.astore 6, 2) := by decide +kernel
theorem dL_thing_23 : decode cL_thing 23 = .ok (.iconst 2, 1) := by decide +kernel
theorem dL_thing_24 : decode cL_thing 24 = .ok (.ireturn, 1) := by decide +kernel
theorem dL_thing_25 : decode cL_thing 25 = .ok (.iconst 0, 1) := by decide +kernel
theorem dL_thing_26 : decode cL_thing 26 = .ok (.ireturn, 1) := by decide +kernel
theorem dL_kept_0 : decode cL_kept 0 = .ok (.aload_n 3, 1) := by decide +kernel
theorem dL_kept_1 : decode cL_kept 1 = .ok (.iconst 0, 1) := by decide +kernel
theorem dL_kept_2 : decode cL_kept 2 = .ok (.aload_n 0, 1) := by decide +kernel
theorem dL_kept_3 : decode cL_kept 3 = .ok (.iload_n 1, 1) := by decide +kernel
theorem dL_kept_4 : decode cL_kept 4 = .ok (.iload_n 2, 1) := by decide +kernel
theorem dL_kept_5 : decode cL_kept 5 = .ok (.invokevirtual 31, 3) := by decide +kernel
theorem dL_kept_8 : decode cL_kept 8 = .ok (.i2l, 1) := by decide +kernel
theorem dL_kept_9 : decode cL_kept 9 = .ok (.lastore, 1) := by decide +kernel
theorem dL_kept_10 : decode cL_kept 10 = .ok (.goto 11, 3) := by decide +kernel
theorem dL_kept_13 : decode cL_kept 13 = .ok (.astore 4, 2) := by decide +kernel
theorem dL_kept_15 : decode cL_kept 15 = .ok (.iconst 1, 1) := by decide +kernel
theorem dL_kept_16 : decode cL_kept 16 = .ok (.ireturn, 1) := by decide +kernel
theorem dL_kept_17 : decode cL_kept 17 = .ok (.astore 4, 2) := by decide +kernel
theorem dL_kept_19 : decode cL_kept 19 = .ok (.iconst 2, 1) := by decide +kernel
theorem dL_kept_20 : decode cL_kept 20 = .ok (.ireturn, 1) := by decide +kernel
theorem dL_kept_21 : decode cL_kept 21 = .ok (.iconst 0, 1) := by decide +kernel
theorem dL_kept_22 : decode cL_kept 22 = .ok (.ireturn, 1) := by decide +kernel
theorem dL_throwsOf_0 : decode cL_throwsOf 0 = .ok (.aload_n 3, 1) := by decide +kernel
theorem dL_throwsOf_1 : decode cL_throwsOf 1 = .ok (.iconst 0, 1) := by decide +kernel
theorem dL_throwsOf_2 : decode cL_throwsOf 2 = .ok (.aload_n 0, 1) := by decide +kernel
theorem dL_throwsOf_3 : decode cL_throwsOf 3 = .ok (.iload_n 1, 1) := by decide +kernel
theorem dL_throwsOf_4 : decode cL_throwsOf 4 = .ok (.iload_n 2, 1) := by decide +kernel
theorem dL_throwsOf_5 : decode cL_throwsOf 5 = .ok (.invokevirtual 36, 3) := by decide +kernel
theorem dL_throwsOf_8 : decode cL_throwsOf 8 = .ok (.i2l, 1) := by decide +kernel
theorem dL_throwsOf_9 : decode cL_throwsOf 9 = .ok (.lastore, 1) := by decide +kernel
theorem dL_throwsOf_10 : decode cL_throwsOf 10 = .ok (.goto 11, 3) := by decide +kernel
theorem dL_throwsOf_13 : decode cL_throwsOf 13 = .ok (.astore 4, 2) := by decide +kernel
theorem dL_throwsOf_15 : decode cL_throwsOf 15 = .ok (.iconst 1, 1) := by decide +kernel
theorem dL_throwsOf_16 : decode cL_throwsOf 16 = .ok (.ireturn, 1) := by decide +kernel
theorem dL_throwsOf_17 : decode cL_throwsOf 17 = .ok (.astore 4, 2) := by decide +kernel
theorem dL_throwsOf_19 : decode cL_throwsOf 19 = .ok (.iconst 2, 1) := by decide +kernel
theorem dL_throwsOf_20 : decode cL_throwsOf 20 = .ok (.ireturn, 1) := by decide +kernel
theorem dL_throwsOf_21 : decode cL_throwsOf 21 = .ok (.iconst 0, 1) := by decide +kernel
theorem dL_throwsOf_22 : decode cL_throwsOf 22 = .ok (.ireturn, 1) := by decide +kernel
theorem dL_looker_0 : decode cL_looker 0 = .ok (.aload 4, 2) := by decide +kernel
theorem dL_looker_2 : decode cL_looker 2 = .ok (.iconst 0, 1) := by decide +kernel
theorem dL_looker_3 : decode cL_looker 3 = .ok (.aload_n 0, 1) := by decide +kernel
theorem dL_looker_4 : decode cL_looker 4 = .ok (.iload_n 1, 1) := by decide +kernel
theorem dL_looker_5 : decode cL_looker 5 = .ok (.iload_n 2, 1) := by decide +kernel
theorem dL_looker_6 : decode cL_looker 6 = .ok (.iload_n 3, 1) := by decide +kernel
theorem dL_looker_7 : decode cL_looker 7 = .ok (.invokevirtual 39, 3) := by decide +kernel
theorem dL_looker_10 : decode cL_looker 10 = .ok (.i2l, 1) := by decide +kernel
theorem dL_looker_11 : decode cL_looker 11 = .ok (.lastore, 1) := by decide +kernel
theorem dL_looker_12 : decode cL_looker 12 = .ok (.goto 11, 3) := by decide +kernel
theorem dL_looker_15 : decode cL_looker 15 = .ok (.astore 5, 2) := by decide +kernel
theorem dL_looker_17 : decode cL_looker 17 = .ok (.iconst 1, 1) := by decide +kernel
theorem dL_looker_18 : decode cL_looker 18 = .ok (.ireturn, 1) := by decide +kernel
theorem dL_looker_19 : decode cL_looker 19 = .ok (.astore 5, 2) := by decide +kernel
theorem dL_looker_21 : decode cL_looker 21 = .ok (.iconst 2, 1) := by decide +kernel
theorem dL_looker_22 : decode cL_looker 22 = .ok (.ireturn, 1) := by decide +kernel
theorem dL_looker_23 : decode cL_looker 23 = .ok (.iconst 0, 1) := by decide +kernel
theorem dL_looker_24 : decode cL_looker 24 = .ok (.ireturn, 1) := by decide +kernel
theorem dL_eyes_0 : decode cL_eyes 0 = .ok (.aload 5, 2) := by decide +kernel
theorem dL_eyes_2 : decode cL_eyes 2 = .ok (.iconst 0, 1) := by decide +kernel
theorem dL_eyes_3 : decode cL_eyes 3 = .ok (.aload_n 0, 1) := by decide +kernel
theorem dL_eyes_4 : decode cL_eyes 4 = .ok (.iload_n 1, 1) := by decide +kernel
theorem dL_eyes_5 : decode cL_eyes 5 = .ok (.iload_n 2, 1) := by decide +kernel
theorem dL_eyes_6 : decode cL_eyes 6 = .ok (.iload_n 3, 1) := by decide +kernel
theorem dL_eyes_7 : decode cL_eyes 7 = .ok (.iload 4, 2) := by decide +kernel
theorem dL_eyes_9 : decode cL_eyes 9 = .ok (.invokevirtual 43, 3) := by decide +kernel
theorem dL_eyes_12 : decode cL_eyes 12 = .ok (.i2l, 1) := by decide +kernel
theorem dL_eyes_13 : decode cL_eyes 13 = .ok (.lastore, 1) := by decide +kernel
theorem dL_eyes_14 : decode cL_eyes 14 = .ok (.goto 7, 3) := by decide +kernel
theorem dL_eyes_17 : decode cL_eyes 17 = .ok (.astore 6, 2) := by decide +kernel
theorem dL_eyes_19 : decode cL_eyes 19 = .ok (.iconst 1, 1) := by decide +kernel
theorem dL_eyes_20 : decode cL_eyes 20 = .ok (.ireturn, 1) := by decide +kernel
theorem dL_eyes_21 : decode cL_eyes 21 = .ok (.iconst 0, 1) := by decide +kernel
theorem dL_eyes_22 : decode cL_eyes 22 = .ok (.ireturn, 1) := by decide +kernel
theorem dL_blink_0 : decode cL_blink 0 = .ok (.aload 4, 2) := by decide +kernel
theorem dL_blink_2 : decode cL_blink 2 = .ok (.iconst 0, 1) := by decide +kernel
theorem dL_blink_3 : decode cL_blink 3 = .ok (.aload_n 0, 1) := by decide +kernel
theorem dL_blink_4 : decode cL_blink 4 = .ok (.iload_n 1, 1) := by decide +kernel
theorem dL_blink_5 : decode cL_blink 5 = .ok (.iload_n 2, 1) := by decide +kernel
theorem dL_blink_6 : decode cL_blink 6 = .ok (.iload_n 3, 1) := by decide +kernel
theorem dL_blink_7 : decode cL_blink 7 = .ok (.invokevirtual 46, 3) := by decide +kernel
theorem dL_blink_10 : decode cL_blink 10 = .ok (.i2l, 1) := by decide +kernel
theorem dL_blink_11 : decode cL_blink 11 = .ok (.lastore, 1) := by decide +kernel
theorem dL_blink_12 : decode cL_blink 12 = .ok (.goto 7, 3) := by decide +kernel
theorem dL_blink_15 : decode cL_blink 15 = .ok (.astore 5, 2) := by decide +kernel
theorem dL_blink_17 : decode cL_blink 17 = .ok (.iconst 1, 1) := by decide +kernel
theorem dL_blink_18 : decode cL_blink 18 = .ok (.ireturn, 1) := by decide +kernel
theorem dL_blink_19 : decode cL_blink 19 = .ok (.iconst 0, 1) := by decide +kernel
theorem dL_blink_20 : decode cL_blink 20 = .ok (.ireturn, 1) := by decide +kernel
theorem dL_eye_0 : decode cL_eye 0 = .ok (.aload_n 3, 1) := by decide +kernel
theorem dL_eye_1 : decode cL_eye 1 = .ok (.iconst 0, 1) := by decide +kernel
theorem dL_eye_2 : decode cL_eye 2 = .ok (.aload_n 0, 1) := by decide +kernel
theorem dL_eye_3 : decode cL_eye 3 = .ok (.iload_n 1, 1) := by decide +kernel
theorem dL_eye_4 : decode cL_eye 4 = .ok (.iload_n 2, 1) := by decide +kernel
theorem dL_eye_5 : decode cL_eye 5 = .ok (.invokevirtual 50, 3) := by decide +kernel
theorem dL_eye_8 : decode cL_eye 8 = .ok (.i2l, 1) := by decide +kernel
theorem dL_eye_9 : decode cL_eye 9 = .ok (.lastore, 1) := by decide +kernel
theorem dL_eye_10 : decode cL_eye 10 = .ok (.goto 7, 3) := by decide +kernel
theorem dL_eye_13 : decode cL_eye 13 = .ok (.astore 4, 2) := by decide +kernel
theorem dL_eye_15 : decode cL_eye 15 = .ok (.iconst 1, 1) := by decide +kernel
theorem dL_eye_16 : decode cL_eye 16 = .ok (.ireturn, 1) := by decide +kernel
theorem dL_eye_17 : decode cL_eye 17 = .ok (.iconst 0, 1) := by decide +kernel
theorem dL_eye_18 : decode cL_eye 18 = .ok (.ireturn, 1) := by decide +kernel
theorem dL_on_0 : decode cL_on 0 = .ok (.aload_n 3, 1) := by decide +kernel
theorem dL_on_1 : decode cL_on 1 = .ok (.iconst 0, 1) := by decide +kernel
theorem dL_on_2 : decode cL_on 2 = .ok (.aload_n 0, 1) := by decide +kernel
theorem dL_on_3 : decode cL_on 3 = .ok (.iload_n 1, 1) := by decide +kernel
theorem dL_on_4 : decode cL_on 4 = .ok (.iload_n 2, 1) := by decide +kernel
theorem dL_on_5 : decode cL_on 5 = .ok (.invokevirtual 53, 3) := by decide +kernel
theorem dL_on_8 : decode cL_on 8 = .ok (.i2l, 1) := by decide +kernel
theorem dL_on_9 : decode cL_on 9 = .ok (.lastore, 1) := by decide +kernel
theorem dL_on_10 : decode cL_on 10 = .ok (.goto 7, 3) := by decide +kernel
theorem dL_on_13 : decode cL_on 13 = .ok (.astore 4, 2) := by decide +kernel
theorem dL_on_15 : decode cL_on 15 = .ok (.iconst 1, 1) := by decide +kernel
theorem dL_on_16 : decode cL_on 16 = .ok (.ireturn, 1) := by decide +kernel
theorem dL_on_17 : decode cL_on 17 = .ok (.iconst 0, 1) := by decide +kernel
theorem dL_on_18 : decode cL_on 18 = .ok (.ireturn, 1) := by decide +kernel
theorem dL_name_0 : decode cL_name 0 = .ok (.aload 5, 2) := by decide +kernel
theorem dL_name_2 : decode cL_name 2 = .ok (.iconst 0, 1) := by decide +kernel
theorem dL_name_3 : decode cL_name 3 = .ok (.aload_n 0, 1) := by decide +kernel
theorem dL_name_4 : decode cL_name 4 = .ok (.iload_n 1, 1) := by decide +kernel
theorem dL_name_5 : decode cL_name 5 = .ok (.iload_n 2, 1) := by decide +kernel
theorem dL_name_6 : decode cL_name 6 = .ok (.iload_n 3, 1) := by decide +kernel
theorem dL_name_7 : decode cL_name 7 = .ok (.iload 4, 2) := by decide +kernel
theorem dL_name_9 : decode cL_name 9 = .ok (.invokevirtual 56, 3) := by decide +kernel
theorem dL_name_12 : decode cL_name 12 = .ok (.i2l, 1) := by decide +kernel
theorem dL_name_13 : decode cL_name 13 = .ok (.lastore, 1) := by decide +kernel
theorem dL_name_14 : decode cL_name 14 = .ok (.goto 7, 3) := by decide +kernel
theorem dL_name_17 : decode cL_name 17 = .ok (.astore 6, 2) := by decide +kernel
theorem dL_name_19 : decode cL_name 19 = .ok (.iconst 1, 1) := by decide +kernel
theorem dL_name_20 : decode cL_name 20 = .ok (.ireturn, 1) := by decide +kernel
theorem dL_name_21 : decode cL_name 21 = .ok (.iconst 0, 1) := by decide +kernel
theorem dL_name_22 : decode cL_name 22 = .ok (.ireturn, 1) := by decide +kernel
theorem dL_gets_0 : decode cL_gets 0 = .ok (.aload 6, 2) := by decide +kernel
theorem dL_gets_2 : decode cL_gets 2 = .ok (.iconst 0, 1) := by decide +kernel
theorem dL_gets_3 : decode cL_gets 3 = .ok (.aload_n 0, 1) := by decide +kernel
theorem dL_gets_4 : decode cL_gets 4 = .ok (.iload_n 1, 1) := by decide +kernel
theorem dL_gets_5 : decode cL_gets 5 = .ok (.iload_n 2, 1) := by decide +kernel
theorem dL_gets_6 : decode cL_gets 6 = .ok (.iload_n 3, 1) := by decide +kernel
theorem dL_gets_7 : decode cL_gets 7 = .ok (.iload 4, 2) := by decide +kernel
theorem dL_gets_9 : decode cL_gets 9 = .ok (.iload 5, 2) := by decide +kernel
theorem dL_gets_11 : decode cL_gets 11 = .ok (.invokevirtual 59, 3) := by decide +kernel
theorem dL_gets_14 : decode cL_gets 14 = .ok (.i2l, 1) := by decide +kernel
theorem dL_gets_15 : decode cL_gets 15 = .ok (.lastore, 1) := by decide +kernel
theorem dL_gets_16 : decode cL_gets 16 = .ok (.goto 11, 3) := by decide +kernel
theorem dL_gets_19 : decode cL_gets 19 = .ok (.astore 7, 2) := by decide +kernel
theorem dL_gets_21 : decode cL_gets 21 = .ok (.iconst 1, 1) := by decide +kernel
theorem dL_gets_22 : decode cL_gets 22 = .ok (.ireturn, 1) := by decide +kernel
theorem dL_gets_23 : decode cL_gets 23 = .ok (.astore 7, 2) := by decide +kernel
theorem dL_gets_25 : decode cL_gets 25 = .ok (.iconst 2, 1) := by decide +kernel
theorem dL_gets_26 : decode cL_gets 26 = .ok (.ireturn, 1) := by decide +kernel
theorem dL_gets_27 : decode cL_gets 27 = .ok (.iconst 0, 1) := by decide +kernel
theorem dL_gets_28 : decode cL_gets 28 = .ok (.ireturn, 1) := by decide +kernel
theorem dL_seen_0 : decode cL_seen 0 = .ok (.aload 4, 2) := by decide +kernel
theorem dL_seen_2 : decode cL_seen 2 = .ok (.iconst 0, 1) := by decide +kernel
theorem dL_seen_3 : decode cL_seen 3 = .ok (.aload_n 0, 1) := by decide +kernel
theorem dL_seen_4 : decode cL_seen 4 = .ok (.iload_n 1, 1) := by decide +kernel
theorem dL_seen_5 : decode cL_seen 5 = .ok (.iload_n 2, 1) := by decide +kernel
theorem dL_seen_6 : decode cL_seen 6 = .ok (.iload_n 3, 1) := by decide +kernel
theorem dL_seen_7 : decode cL_seen 7 = .ok (.invokevirtual 63, 3) := by decide +kernel
theorem dL_seen_10 : decode cL_seen 10 = .ok (.i2l, 1) := by decide +kernel
theorem dL_seen_11 : decode cL_seen 11 = .ok (.lastore, 1) := by decide +kernel
theorem dL_seen_12 : decode cL_seen 12 = .ok (.goto 11, 3) := by decide +kernel
theorem dL_seen_15 : decode cL_seen 15 = .ok (.astore 5, 2) := by decide +kernel
theorem dL_seen_17 : decode cL_seen 17 = .ok (.iconst 1, 1) := by decide +kernel
theorem dL_seen_18 : decode cL_seen 18 = .ok (.ireturn, 1) := by decide +kernel
theorem dL_seen_19 : decode cL_seen 19 = .ok (.astore 5, 2) := by decide +kernel
theorem dL_seen_21 : decode cL_seen 21 = .ok (.iconst 2, 1) := by decide +kernel
theorem dL_seen_22 : decode cL_seen 22 = .ok (.ireturn, 1) := by decide +kernel
theorem dL_seen_23 : decode cL_seen 23 = .ok (.iconst 0, 1) := by decide +kernel
theorem dL_seen_24 : decode cL_seen 24 = .ok (.ireturn, 1) := by decide +kernel
theorem dL_says_0 : decode cL_says 0 = .ok (.aload 4, 2) := by decide +kernel
theorem dL_says_2 : decode cL_says 2 = .ok (.iconst 0, 1) := by decide +kernel
theorem dL_says_3 : decode cL_says 3 = .ok (.aload_n 0, 1) := by decide +kernel
theorem dL_says_4 : decode cL_says 4 = .ok (.iload_n 1, 1) := by decide +kernel
theorem dL_says_5 : decode cL_says 5 = .ok (.iload_n 2, 1) := by decide +kernel
theorem dL_says_6 : decode cL_says 6 = .ok (.iload_n 3, 1) := by decide +kernel
theorem dL_says_7 : decode cL_says 7 = .ok (.invokevirtual 66, 3) := by decide +kernel
theorem dL_says_10 : decode cL_says 10 = .ok (.ifCond .eq 7, 3) := by decide +kernel
theorem dL_says_13 : decode cL_says 13 = .ok (.lconst 1, 1) := by decide +kernel
theorem dL_says_14 : decode cL_says 14 = .ok (.goto 4, 3) := by decide +kernel
theorem dL_says_17 : decode cL_says 17 = .ok (.lconst 0, 1) := by decide +kernel
theorem dL_says_18 : decode cL_says 18 = .ok (.lastore, 1) := by decide +kernel
theorem dL_says_19 : decode cL_says 19 = .ok (.goto 11, 3) := by decide +kernel
theorem dL_says_22 : decode cL_says 22 = .ok (.astore 5, 2) := by decide +kernel
theorem dL_says_24 : decode cL_says 24 = .ok (.iconst 1, 1) := by decide +kernel
theorem dL_says_25 : decode cL_says 25 = .ok (.ireturn, 1) := by decide +kernel
theorem dL_says_26 : decode cL_says 26 = .ok (.astore 5, 2) := by decide +kernel
theorem dL_says_28 : decode cL_says 28 = .ok (.iconst 2, 1) := by decide +kernel
theorem dL_says_29 : decode cL_says 29 = .ok (.ireturn, 1) := by decide +kernel
theorem dL_says_30 : decode cL_says 30 = .ok (.iconst 0, 1) := by decide +kernel
theorem dL_says_31 : decode cL_says 31 = .ok (.ireturn, 1) := by decide +kernel
theorem dL_miss_0 : decode cL_miss 0 = .ok (.aload 4, 2) := by decide +kernel
theorem dL_miss_2 : decode cL_miss 2 = .ok (.iconst 0, 1) := by decide +kernel
theorem dL_miss_3 : decode cL_miss 3 = .ok (.aload_n 0, 1) := by decide +kernel
theorem dL_miss_4 : decode cL_miss 4 = .ok (.iload_n 1, 1) := by decide +kernel
theorem dL_miss_5 : decode cL_miss 5 = .ok (.iload_n 2, 1) := by decide +kernel
theorem dL_miss_6 : decode cL_miss 6 = .ok (.iload_n 3, 1) := by decide +kernel
theorem dL_miss_7 : decode cL_miss 7 = .ok (.invokevirtual 70, 3) := by decide +kernel
theorem dL_miss_10 : decode cL_miss 10 = .ok (.i2l, 1) := by decide +kernel
theorem dL_miss_11 : decode cL_miss 11 = .ok (.lastore, 1) := by decide +kernel
theorem dL_miss_12 : decode cL_miss 12 = .ok (.goto 11, 3) := by decide +kernel
theorem dL_miss_15 : decode cL_miss 15 = .ok (.astore 5, 2) := by decide +kernel
theorem dL_miss_17 : decode cL_miss 17 = .ok (.iconst 1, 1) := by decide +kernel
theorem dL_miss_18 : decode cL_miss 18 = .ok (.ireturn, 1) := by decide +kernel
theorem dL_miss_19 : decode cL_miss 19 = .ok (.astore 5, 2) := by decide +kernel
theorem dL_miss_21 : decode cL_miss 21 = .ok (.iconst 2, 1) := by decide +kernel
theorem dL_miss_22 : decode cL_miss 22 = .ok (.ireturn, 1) := by decide +kernel
theorem dL_miss_23 : decode cL_miss 23 = .ok (.iconst 0, 1) := by decide +kernel
theorem dL_miss_24 : decode cL_miss 24 = .ok (.ireturn, 1) := by decide +kernel
theorem dL_drawn_0 : decode cL_drawn 0 = .ok (.aload 5, 2) := by decide +kernel
theorem dL_drawn_2 : decode cL_drawn 2 = .ok (.iconst 0, 1) := by decide +kernel
theorem dL_drawn_3 : decode cL_drawn 3 = .ok (.aload_n 0, 1) := by decide +kernel
theorem dL_drawn_4 : decode cL_drawn 4 = .ok (.iload_n 1, 1) := by decide +kernel
theorem dL_drawn_5 : decode cL_drawn 5 = .ok (.iload_n 2, 1) := by decide +kernel
theorem dL_drawn_6 : decode cL_drawn 6 = .ok (.iload_n 3, 1) := by decide +kernel
theorem dL_drawn_7 : decode cL_drawn 7 = .ok (.iload 4, 2) := by decide +kernel
theorem dL_drawn_9 : decode cL_drawn 9 = .ok (.invokevirtual 73, 3) := by decide +kernel
theorem dL_drawn_12 : decode cL_drawn 12 = .ok (.i2l, 1) := by decide +kernel
theorem dL_drawn_13 : decode cL_drawn 13 = .ok (.lastore, 1) := by decide +kernel
theorem dL_drawn_14 : decode cL_drawn 14 = .ok (.goto 11, 3) := by decide +kernel
theorem dL_drawn_17 : decode cL_drawn 17 = .ok (.astore 6, 2) := by decide +kernel
theorem dL_drawn_19 : decode cL_drawn 19 = .ok (.iconst 1, 1) := by decide +kernel
theorem dL_drawn_20 : decode cL_drawn 20 = .ok (.ireturn, 1) := by decide +kernel
theorem dL_drawn_21 : decode cL_drawn 21 = .ok (.astore 6, 2) := by decide +kernel
theorem dL_drawn_23 : decode cL_drawn 23 = .ok (.iconst 2, 1) := by decide +kernel
theorem dL_drawn_24 : decode cL_drawn 24 = .ok (.ireturn, 1) := by decide +kernel
theorem dL_drawn_25 : decode cL_drawn 25 = .ok (.iconst 0, 1) := by decide +kernel
theorem dL_drawn_26 : decode cL_drawn 26 = .ok (.ireturn, 1) := by decide +kernel
theorem dL_change_0 : decode cL_change 0 = .ok (.aload_n 3, 1) := by decide +kernel
theorem dL_change_1 : decode cL_change 1 = .ok (.iconst 0, 1) := by decide +kernel
theorem dL_change_2 : decode cL_change 2 = .ok (.aload_n 0, 1) := by decide +kernel
theorem dL_change_3 : decode cL_change 3 = .ok (.iload_n 1, 1) := by decide +kernel
theorem dL_change_4 : decode cL_change 4 = .ok (.iload_n 2, 1) := by decide +kernel
theorem dL_change_5 : decode cL_change 5 = .ok (.invokevirtual 76, 3) := by decide +kernel
theorem dL_change_8 : decode cL_change 8 = .ok (.i2l, 1) := by decide +kernel
theorem dL_change_9 : decode cL_change 9 = .ok (.lastore, 1) := by decide +kernel
theorem dL_change_10 : decode cL_change 10 = .ok (.goto 11, 3) := by decide +kernel
theorem dL_change_13 : decode cL_change 13 = .ok (.astore 4, 2) := by decide +kernel
theorem dL_change_15 : decode cL_change 15 = .ok (.iconst 1, 1) := by decide +kernel
theorem dL_change_16 : decode cL_change 16 = .ok (.ireturn, 1) := by decide +kernel
theorem dL_change_17 : decode cL_change 17 = .ok (.astore 4, 2) := by decide +kernel
theorem dL_change_19 : decode cL_change 19 = .ok (.iconst 2, 1) := by decide +kernel
theorem dL_change_20 : decode cL_change 20 = .ok (.ireturn, 1) := by decide +kernel
theorem dL_change_21 : decode cL_change 21 = .ok (.iconst 0, 1) := by decide +kernel
theorem dL_change_22 : decode cL_change 22 = .ok (.ireturn, 1) := by decide +kernel
theorem dL_yet_0 : decode cL_yet 0 = .ok (.aload_n 2, 1) := by decide +kernel
theorem dL_yet_1 : decode cL_yet 1 = .ok (.iconst 0, 1) := by decide +kernel
theorem dL_yet_2 : decode cL_yet 2 = .ok (.aload_n 0, 1) := by decide +kernel
theorem dL_yet_3 : decode cL_yet 3 = .ok (.iload_n 1, 1) := by decide +kernel
theorem dL_yet_4 : decode cL_yet 4 = .ok (.invokevirtual 79, 3) := by decide +kernel
theorem dL_yet_7 : decode cL_yet 7 = .ok (.i2l, 1) := by decide +kernel
theorem dL_yet_8 : decode cL_yet 8 = .ok (.lastore, 1) := by decide +kernel
theorem dL_yet_9 : decode cL_yet 9 = .ok (.goto 6, 3) := by decide +kernel
theorem dL_yet_12 : decode cL_yet 12 = .ok (.astore_n 3, 1) := by decide +kernel
theorem dL_yet_13 : decode cL_yet 13 = .ok (.iconst 1, 1) := by decide +kernel
theorem dL_yet_14 : decode cL_yet 14 = .ok (.ireturn, 1) := by decide +kernel
theorem dL_yet_15 : decode cL_yet 15 = .ok (.iconst 0, 1) := by decide +kernel
theorem dL_yet_16 : decode cL_yet 16 = .ok (.ireturn, 1) := by decide +kernel
theorem dL_least_0 : decode cL_least 0 = .ok (.aload 4, 2) := by decide +kernel
theorem dL_least_2 : decode cL_least 2 = .ok (.iconst 0, 1) := by decide +kernel
theorem dL_least_3 : decode cL_least 3 = .ok (.aload_n 0, 1) := by decide +kernel
theorem dL_least_4 : decode cL_least 4 = .ok (.iload_n 1, 1) := by decide +kernel
theorem dL_least_5 : decode cL_least 5 = .ok (.iload_n 2, 1) := by decide +kernel
theorem dL_least_6 : decode cL_least 6 = .ok (.iload_n 3, 1) := by decide +kernel
theorem dL_least_7 : decode cL_least 7 = .ok (.invokevirtual 82, 3) := by decide +kernel
theorem dL_least_10 : decode cL_least 10 = .ok (.i2l, 1) := by decide +kernel
theorem dL_least_11 : decode cL_least 11 = .ok (.lastore, 1) := by decide +kernel
theorem dL_least_12 : decode cL_least 12 = .ok (.goto 11, 3) := by decide +kernel
theorem dL_least_15 : decode cL_least 15 = .ok (.astore 5, 2) := by decide +kernel
theorem dL_least_17 : decode cL_least 17 = .ok (.iconst 1, 1) := by decide +kernel
theorem dL_least_18 : decode cL_least 18 = .ok (.ireturn, 1) := by decide +kernel
theorem dL_least_19 : decode cL_least 19 = .ok (.astore 5, 2) := by decide +kernel
theorem dL_least_21 : decode cL_least 21 = .ok (.iconst 2, 1) := by decide +kernel
theorem dL_least_22 : decode cL_least 22 = .ok (.ireturn, 1) := by decide +kernel
theorem dL_least_23 : decode cL_least 23 = .ok (.iconst 0, 1) := by decide +kernel
theorem dL_least_24 : decode cL_least 24 = .ok (.ireturn, 1) := by decide +kernel
theorem dL_answer_0 : decode cL_answer 0 = .ok (.aload 4, 2) := by decide +kernel
theorem dL_answer_2 : decode cL_answer 2 = .ok (.iconst 0, 1) := by decide +kernel
theorem dL_answer_3 : decode cL_answer 3 = .ok (.aload_n 0, 1) := by decide +kernel
theorem dL_answer_4 : decode cL_answer 4 = .ok (.iload_n 1, 1) := by decide +kernel
theorem dL_answer_5 : decode cL_answer 5 = .ok (.iload_n 2, 1) := by decide +kernel
theorem dL_answer_6 : decode cL_answer 6 = .ok (.iload_n 3, 1) := by decide +kernel
theorem dL_answer_7 : decode cL_answer 7 = .ok (.invokevirtual 85, 3) := by decide +kernel
theorem dL_answer_10 : decode cL_answer 10 = .ok (.i2l, 1) := by decide +kernel
theorem dL_answer_11 : decode cL_answer 11 = .ok (.lastore, 1) := by decide +kernel
theorem dL_answer_12 : decode cL_answer 12 = .ok (.goto 7, 3) := by decide +kernel
theorem dL_answer_15 : decode cL_answer 15 = .ok (.astore 5, 2) := by decide +kernel
theorem dL_answer_17 : decode cL_answer 17 = .ok (.iconst 1, 1) := by decide +kernel
theorem dL_answer_18 : decode cL_answer 18 = .ok (.ireturn, 1) := by decide +kernel
theorem dL_answer_19 : decode cL_answer 19 = .ok (.iconst 0, 1) := by decide +kernel
theorem dL_answer_20 : decode cL_answer 20 = .ok (.ireturn, 1) := by decide +kernel
theorem dL_counted_0 : decode cL_counted 0 = .ok (.aload_n 3, 1) := by decide +kernel
theorem dL_counted_1 : decode cL_counted 1 = .ok (.iconst 0, 1) := by decide +kernel
theorem dL_counted_2 : decode cL_counted 2 = .ok (.aload_n 0, 1) := by decide +kernel
theorem dL_counted_3 : decode cL_counted 3 = .ok (.iload_n 1, 1) := by decide +kernel
theorem dL_counted_4 : decode cL_counted 4 = .ok (.iload_n 2, 1) := by decide +kernel
theorem dL_counted_5 : decode cL_counted 5 = .ok (.invokevirtual 88, 3) := by decide +kernel
theorem dL_counted_8 : decode cL_counted 8 = .ok (.i2l, 1) := by decide +kernel
theorem dL_counted_9 : decode cL_counted 9 = .ok (.lastore, 1) := by decide +kernel
theorem dL_counted_10 : decode cL_counted 10 = .ok (.goto 7, 3) := by decide +kernel
theorem dL_counted_13 : decode cL_counted 13 = .ok (.astore 4, 2) := by decide +kernel
theorem dL_counted_15 : decode cL_counted 15 = .ok (.iconst 1, 1) := by decide +kernel
theorem dL_counted_16 : decode cL_counted 16 = .ok (.ireturn, 1) := by decide +kernel
theorem dL_counted_17 : decode cL_counted 17 = .ok (.iconst 0, 1) := by decide +kernel
theorem dL_counted_18 : decode cL_counted 18 = .ok (.ireturn, 1) := by decide +kernel
theorem dL_sure_0 : decode cL_sure 0 = .ok (.aload_n 3, 1) := by decide +kernel
theorem dL_sure_1 : decode cL_sure 1 = .ok (.iconst 0, 1) := by decide +kernel
theorem dL_sure_2 : decode cL_sure 2 = .ok (.aload_n 0, 1) := by decide +kernel
theorem dL_sure_3 : decode cL_sure 3 = .ok (.iload_n 1, 1) := by decide +kernel
theorem dL_sure_4 : decode cL_sure 4 = .ok (.iload_n 2, 1) := by decide +kernel
theorem dL_sure_5 : decode cL_sure 5 = .ok (.invokevirtual 91, 3) := by decide +kernel
theorem dL_sure_8 : decode cL_sure 8 = .ok (.i2l, 1) := by decide +kernel
theorem dL_sure_9 : decode cL_sure 9 = .ok (.lastore, 1) := by decide +kernel
theorem dL_sure_10 : decode cL_sure 10 = .ok (.goto 7, 3) := by decide +kernel
theorem dL_sure_13 : decode cL_sure 13 = .ok (.astore 4, 2) := by decide +kernel
theorem dL_sure_15 : decode cL_sure 15 = .ok (.iconst 1, 1) := by decide +kernel
theorem dL_sure_16 : decode cL_sure 16 = .ok (.ireturn, 1) := by decide +kernel
theorem dL_sure_17 : decode cL_sure 17 = .ok (.iconst 0, 1) := by decide +kernel
theorem dL_sure_18 : decode cL_sure 18 = .ok (.ireturn, 1) := by decide +kernel
theorem dL_share_0 : decode cL_share 0 = .ok (.aload 5, 2) := by decide +kernel
theorem dL_share_2 : decode cL_share 2 = .ok (.iconst 0, 1) := by decide +kernel
theorem dL_share_3 : decode cL_share 3 = .ok (.aload_n 0, 1) := by decide +kernel
theorem dL_share_4 : decode cL_share 4 = .ok (.iload_n 1, 1) := by decide +kernel
theorem dL_share_5 : decode cL_share 5 = .ok (.iload_n 2, 1) := by decide +kernel
theorem dL_share_6 : decode cL_share 6 = .ok (.iload_n 3, 1) := by decide +kernel
theorem dL_share_7 : decode cL_share 7 = .ok (.iload 4, 2) := by decide +kernel
theorem dL_share_9 : decode cL_share 9 = .ok (.invokevirtual 94, 3) := by decide +kernel
theorem dL_share_12 : decode cL_share 12 = .ok (.i2l, 1) := by decide +kernel
theorem dL_share_13 : decode cL_share 13 = .ok (.lastore, 1) := by decide +kernel
theorem dL_share_14 : decode cL_share 14 = .ok (.goto 15, 3) := by decide +kernel
theorem dL_share_17 : decode cL_share 17 = .ok (.astore 6, 2) := by decide +kernel
theorem dL_share_19 : decode cL_share 19 = .ok (.iconst 1, 1) := by decide +kernel
theorem dL_share_20 : decode cL_share 20 = .ok (.ireturn, 1) := by decide +kernel
theorem dL_share_21 : decode cL_share 21 = .ok (.astore 6, 2) := by decide +kernel
theorem dL_share_23 : decode cL_share 23 = .ok (.iconst 2, 1) := by decide +kernel
theorem dL_share_24 : decode cL_share 24 = .ok (.ireturn, 1) := by decide +kernel
theorem dL_share_25 : decode cL_share 25 = .ok (.astore 6, 2) := by decide +kernel
theorem dL_share_27 : decode cL_share 27 = .ok (.iconst 3, 1) := by decide +kernel
theorem dL_share_28 : decode cL_share 28 = .ok (.ireturn, 1) := by decide +kernel
theorem dL_share_29 : decode cL_share 29 = .ok (.iconst 0, 1) := by decide +kernel
theorem dL_share_30 : decode cL_share 30 = .ok (.ireturn, 1) := by decide +kernel
theorem dL_guessed_0 : decode cL_guessed 0 = .ok (.aload 5, 2) := by decide +kernel
theorem dL_guessed_2 : decode cL_guessed 2 = .ok (.iconst 0, 1) := by decide +kernel
theorem dL_guessed_3 : decode cL_guessed 3 = .ok (.aload_n 0, 1) := by decide +kernel
theorem dL_guessed_4 : decode cL_guessed 4 = .ok (.iload_n 1, 1) := by decide +kernel
theorem dL_guessed_5 : decode cL_guessed 5 = .ok (.iload_n 2, 1) := by decide +kernel
theorem dL_guessed_6 : decode cL_guessed 6 = .ok (.iload_n 3, 1) := by decide +kernel
theorem dL_guessed_7 : decode cL_guessed 7 = .ok (.iload 4, 2) := by decide +kernel
theorem dL_guessed_9 : decode cL_guessed 9 = .ok (.invokevirtual 97, 3) := by decide +kernel
theorem dL_guessed_12 : decode cL_guessed 12 = .ok (.i2l, 1) := by decide +kernel
theorem dL_guessed_13 : decode cL_guessed 13 = .ok (.lastore, 1) := by decide +kernel
theorem dL_guessed_14 : decode cL_guessed 14 = .ok (.goto 15, 3) := by decide +kernel
theorem dL_guessed_17 : decode cL_guessed 17 = .ok (.astore 6, 2) := by decide +kernel
theorem dL_guessed_19 : decode cL_guessed 19 = .ok (.iconst 1, 1) := by decide +kernel
theorem dL_guessed_20 : decode cL_guessed 20 = .ok (.ireturn, 1) := by decide +kernel
theorem dL_guessed_21 : decode cL_guessed 21 = .ok (.astore 6, 2) := by decide +kernel
theorem dL_guessed_23 : decode cL_guessed 23 = .ok (.iconst 2, 1) := by decide +kernel
theorem dL_guessed_24 : decode cL_guessed 24 = .ok (.ireturn, 1) := by decide +kernel
theorem dL_guessed_25 : decode cL_guessed 25 = .ok (.astore 6, 2) := by decide +kernel
theorem dL_guessed_27 : decode cL_guessed 27 = .ok (.iconst 3, 1) := by decide +kernel
theorem dL_guessed_28 : decode cL_guessed 28 = .ok (.ireturn, 1) := by decide +kernel
theorem dL_guessed_29 : decode cL_guessed 29 = .ok (.iconst 0, 1) := by decide +kernel
theorem dL_guessed_30 : decode cL_guessed 30 = .ok (.ireturn, 1) := by decide +kernel
theorem dL_apart_0 : decode cL_apart 0 = .ok (.aload 7, 2) := by decide +kernel
theorem dL_apart_2 : decode cL_apart 2 = .ok (.iconst 0, 1) := by decide +kernel
theorem dL_apart_3 : decode cL_apart 3 = .ok (.aload_n 0, 1) := by decide +kernel
theorem dL_apart_4 : decode cL_apart 4 = .ok (.iload_n 1, 1) := by decide +kernel
theorem dL_apart_5 : decode cL_apart 5 = .ok (.iload_n 2, 1) := by decide +kernel
theorem dL_apart_6 : decode cL_apart 6 = .ok (.iload_n 3, 1) := by decide +kernel
theorem dL_apart_7 : decode cL_apart 7 = .ok (.iload 4, 2) := by decide +kernel
theorem dL_apart_9 : decode cL_apart 9 = .ok (.iload 5, 2) := by decide +kernel
theorem dL_apart_11 : decode cL_apart 11 = .ok (.iload 6, 2) := by decide +kernel
theorem dL_apart_13 : decode cL_apart 13 = .ok (.invokevirtual 100, 3) := by decide +kernel
theorem dL_apart_16 : decode cL_apart 16 = .ok (.i2l, 1) := by decide +kernel
theorem dL_apart_17 : decode cL_apart 17 = .ok (.lastore, 1) := by decide +kernel
theorem dL_apart_18 : decode cL_apart 18 = .ok (.goto 15, 3) := by decide +kernel
theorem dL_apart_21 : decode cL_apart 21 = .ok (.astore 8, 2) := by decide +kernel
theorem dL_apart_23 : decode cL_apart 23 = .ok (.iconst 1, 1) := by decide +kernel
theorem dL_apart_24 : decode cL_apart 24 = .ok (.ireturn, 1) := by decide +kernel
theorem dL_apart_25 : decode cL_apart 25 = .ok (.astore 8, 2) := by decide +kernel
theorem dL_apart_27 : decode cL_apart 27 = .ok (.iconst 2, 1) := by decide +kernel
theorem dL_apart_28 : decode cL_apart 28 = .ok (.ireturn, 1) := by decide +kernel
theorem dL_apart_29 : decode cL_apart 29 = .ok (.astore 8, 2) := by decide +kernel
theorem dL_apart_31 : decode cL_apart 31 = .ok (.iconst 3, 1) := by decide +kernel
theorem dL_apart_32 : decode cL_apart 32 = .ok (.ireturn, 1) := by decide +kernel
theorem dL_apart_33 : decode cL_apart 33 = .ok (.iconst 0, 1) := by decide +kernel
theorem dL_apart_34 : decode cL_apart 34 = .ok (.ireturn, 1) := by decide +kernel
theorem dL_gone_0 : decode cL_gone 0 = .ok (.aload 4, 2) := by decide +kernel
theorem dL_gone_2 : decode cL_gone 2 = .ok (.iconst 0, 1) := by decide +kernel
theorem dL_gone_3 : decode cL_gone 3 = .ok (.aload_n 0, 1) := by decide +kernel
theorem dL_gone_4 : decode cL_gone 4 = .ok (.iload_n 1, 1) := by decide +kernel
theorem dL_gone_5 : decode cL_gone 5 = .ok (.iload_n 2, 1) := by decide +kernel
theorem dL_gone_6 : decode cL_gone 6 = .ok (.iload_n 3, 1) := by decide +kernel
theorem dL_gone_7 : decode cL_gone 7 = .ok (.invokevirtual 104, 3) := by decide +kernel
theorem dL_gone_10 : decode cL_gone 10 = .ok (.i2l, 1) := by decide +kernel
theorem dL_gone_11 : decode cL_gone 11 = .ok (.lastore, 1) := by decide +kernel
theorem dL_gone_12 : decode cL_gone 12 = .ok (.goto 15, 3) := by decide +kernel
theorem dL_gone_15 : decode cL_gone 15 = .ok (.astore 5, 2) := by decide +kernel
theorem dL_gone_17 : decode cL_gone 17 = .ok (.iconst 1, 1) := by decide +kernel
theorem dL_gone_18 : decode cL_gone 18 = .ok (.ireturn, 1) := by decide +kernel
theorem dL_gone_19 : decode cL_gone 19 = .ok (.astore 5, 2) := by decide +kernel
theorem dL_gone_21 : decode cL_gone 21 = .ok (.iconst 2, 1) := by decide +kernel
theorem dL_gone_22 : decode cL_gone 22 = .ok (.ireturn, 1) := by decide +kernel
theorem dL_gone_23 : decode cL_gone 23 = .ok (.astore 5, 2) := by decide +kernel
theorem dL_gone_25 : decode cL_gone 25 = .ok (.iconst 3, 1) := by decide +kernel
theorem dL_gone_26 : decode cL_gone 26 = .ok (.ireturn, 1) := by decide +kernel
theorem dL_gone_27 : decode cL_gone 27 = .ok (.iconst 0, 1) := by decide +kernel
theorem dL_gone_28 : decode cL_gone 28 = .ok (.ireturn, 1) := by decide +kernel
theorem dL_lost_0 : decode cL_lost 0 = .ok (.aload_n 2, 1) := by decide +kernel
theorem dL_lost_1 : decode cL_lost 1 = .ok (.iconst 0, 1) := by decide +kernel
theorem dL_lost_2 : decode cL_lost 2 = .ok (.aload_n 0, 1) := by decide +kernel
theorem dL_lost_3 : decode cL_lost 3 = .ok (.iload_n 1, 1) := by decide +kernel
theorem dL_lost_4 : decode cL_lost 4 = .ok (.invokevirtual 107, 3) := by decide +kernel
theorem dL_lost_7 : decode cL_lost 7 = .ok (.i2l, 1) := by decide +kernel
theorem dL_lost_8 : decode cL_lost 8 = .ok (.lastore, 1) := by decide +kernel
theorem dL_lost_9 : decode cL_lost 9 = .ok (.goto 6, 3) := by decide +kernel
theorem dL_lost_12 : decode cL_lost 12 = .ok (.astore_n 3, 1) := by decide +kernel
theorem dL_lost_13 : decode cL_lost 13 = .ok (.iconst 1, 1) := by decide +kernel
theorem dL_lost_14 : decode cL_lost 14 = .ok (.ireturn, 1) := by decide +kernel
theorem dL_lost_15 : decode cL_lost 15 = .ok (.iconst 0, 1) := by decide +kernel
theorem dL_lost_16 : decode cL_lost 16 = .ok (.ireturn, 1) := by decide +kernel
theorem dL_cost_0 : decode cL_cost 0 = .ok (.aload 4, 2) := by decide +kernel
theorem dL_cost_2 : decode cL_cost 2 = .ok (.iconst 0, 1) := by decide +kernel
theorem dL_cost_3 : decode cL_cost 3 = .ok (.aload_n 0, 1) := by decide +kernel
theorem dL_cost_4 : decode cL_cost 4 = .ok (.iload_n 1, 1) := by decide +kernel
theorem dL_cost_5 : decode cL_cost 5 = .ok (.iload_n 2, 1) := by decide +kernel
theorem dL_cost_6 : decode cL_cost 6 = .ok (.iload_n 3, 1) := by decide +kernel
theorem dL_cost_7 : decode cL_cost 7 = .ok (.invokevirtual 110, 3) := by decide +kernel
theorem dL_cost_10 : decode cL_cost 10 = .ok (.i2l, 1) := by decide +kernel
theorem dL_cost_11 : decode cL_cost 11 = .ok (.lastore, 1) := by decide +kernel
theorem dL_cost_12 : decode cL_cost 12 = .ok (.goto 11, 3) := by decide +kernel
theorem dL_cost_15 : decode cL_cost 15 = .ok (.astore 5, 2) := by decide +kernel
theorem dL_cost_17 : decode cL_cost 17 = .ok (.iconst 1, 1) := by decide +kernel
theorem dL_cost_18 : decode cL_cost 18 = .ok (.ireturn, 1) := by decide +kernel
theorem dL_cost_19 : decode cL_cost 19 = .ok (.astore 5, 2) := by decide +kernel
theorem dL_cost_21 : decode cL_cost 21 = .ok (.iconst 2, 1) := by decide +kernel
theorem dL_cost_22 : decode cL_cost 22 = .ok (.ireturn, 1) := by decide +kernel
theorem dL_cost_23 : decode cL_cost 23 = .ok (.iconst 0, 1) := by decide +kernel
theorem dL_cost_24 : decode cL_cost 24 = .ok (.ireturn, 1) := by decide +kernel
theorem dL_off_0 : decode cL_off 0 = .ok (.aload 4, 2) := by decide +kernel
theorem dL_off_2 : decode cL_off 2 = .ok (.iconst 0, 1) := by decide +kernel
theorem dL_off_3 : decode cL_off 3 = .ok (.aload_n 0, 1) := by decide +kernel
theorem dL_off_4 : decode cL_off 4 = .ok (.iload_n 1, 1) := by decide +kernel
theorem dL_off_5 : decode cL_off 5 = .ok (.iload_n 2, 1) := by decide +kernel
theorem dL_off_6 : decode cL_off 6 = .ok (.iload_n 3, 1) := by decide +kernel
theorem dL_off_7 : decode cL_off 7 = .ok (.invokevirtual 113, 3) := by decide +kernel
theorem dL_off_10 : decode cL_off 10 = .ok (.i2l, 1) := by decide +kernel
theorem dL_off_11 : decode cL_off 11 = .ok (.lastore, 1) := by decide +kernel
theorem dL_off_12 : decode cL_off 12 = .ok (.goto 15, 3) := by decide +kernel
theorem dL_off_15 : decode cL_off 15 = .ok (.astore 5, 2) := by decide +kernel
theorem dL_off_17 : decode cL_off 17 = .ok (.iconst 1, 1) := by decide +kernel
theorem dL_off_18 : decode cL_off 18 = .ok (.ireturn, 1) := by decide +kernel
theorem dL_off_19 : decode cL_off 19 = .ok (.astore 5, 2) := by decide +kernel
theorem dL_off_21 : decode cL_off 21 = .ok (.iconst 2, 1) := by decide +kernel
theorem dL_off_22 : decode cL_off 22 = .ok (.ireturn, 1) := by decide +kernel
theorem dL_off_23 : decode cL_off 23 = .ok (.astore 5, 2) := by decide +kernel
theorem dL_off_25 : decode cL_off 25 = .ok (.iconst 3, 1) := by decide +kernel
theorem dL_off_26 : decode cL_off 26 = .ok (.ireturn, 1) := by decide +kernel
theorem dL_off_27 : decode cL_off 27 = .ok (.iconst 0, 1) := by decide +kernel
theorem dL_off_28 : decode cL_off 28 = .ok (.ireturn, 1) := by decide +kernel
theorem dL_weigh_0 : decode cL_weigh 0 = .ok (.aload_n 3, 1) := by decide +kernel
theorem dL_weigh_1 : decode cL_weigh 1 = .ok (.iconst 0, 1) := by decide +kernel
theorem dL_weigh_2 : decode cL_weigh 2 = .ok (.aload_n 0, 1) := by decide +kernel
theorem dL_weigh_3 : decode cL_weigh 3 = .ok (.iload_n 1, 1) := by decide +kernel
theorem dL_weigh_4 : decode cL_weigh 4 = .ok (.iload_n 2, 1) := by decide +kernel
theorem dL_weigh_5 : decode cL_weigh 5 = .ok (.invokevirtual 116, 3) := by decide +kernel
theorem dL_weigh_8 : decode cL_weigh 8 = .ok (.i2l, 1) := by decide +kernel
theorem dL_weigh_9 : decode cL_weigh 9 = .ok (.lastore, 1) := by decide +kernel
theorem dL_weigh_10 : decode cL_weigh 10 = .ok (.goto 11, 3) := by decide +kernel
theorem dL_weigh_13 : decode cL_weigh 13 = .ok (.astore 4, 2) := by decide +kernel
theorem dL_weigh_15 : decode cL_weigh 15 = .ok (.iconst 1, 1) := by decide +kernel
theorem dL_weigh_16 : decode cL_weigh 16 = .ok (.ireturn, 1) := by decide +kernel
theorem dL_weigh_17 : decode cL_weigh 17 = .ok (.astore 4, 2) := by decide +kernel
theorem dL_weigh_19 : decode cL_weigh 19 = .ok (.iconst 2, 1) := by decide +kernel
theorem dL_weigh_20 : decode cL_weigh 20 = .ok (.ireturn, 1) := by decide +kernel
theorem dL_weigh_21 : decode cL_weigh 21 = .ok (.iconst 0, 1) := by decide +kernel
theorem dL_weigh_22 : decode cL_weigh 22 = .ok (.ireturn, 1) := by decide +kernel
theorem dL_wrong_0 : decode cL_wrong 0 = .ok (.aload_n 2, 1) := by decide +kernel
theorem dL_wrong_1 : decode cL_wrong 1 = .ok (.iconst 0, 1) := by decide +kernel
theorem dL_wrong_2 : decode cL_wrong 2 = .ok (.aload_n 0, 1) := by decide +kernel
theorem dL_wrong_3 : decode cL_wrong 3 = .ok (.iload_n 1, 1) := by decide +kernel
theorem dL_wrong_4 : decode cL_wrong 4 = .ok (.invokevirtual 119, 3) := by decide +kernel
theorem dL_wrong_7 : decode cL_wrong 7 = .ok (.i2l, 1) := by decide +kernel
theorem dL_wrong_8 : decode cL_wrong 8 = .ok (.lastore, 1) := by decide +kernel
theorem dL_wrong_9 : decode cL_wrong 9 = .ok (.goto 6, 3) := by decide +kernel
theorem dL_wrong_12 : decode cL_wrong 12 = .ok (.astore_n 3, 1) := by decide +kernel
theorem dL_wrong_13 : decode cL_wrong 13 = .ok (.iconst 1, 1) := by decide +kernel
theorem dL_wrong_14 : decode cL_wrong 14 = .ok (.ireturn, 1) := by decide +kernel
theorem dL_wrong_15 : decode cL_wrong 15 = .ok (.iconst 0, 1) := by decide +kernel
theorem dL_wrong_16 : decode cL_wrong 16 = .ok (.ireturn, 1) := by decide +kernel
theorem dL_odds_0 : decode cL_odds 0 = .ok (.aload_n 2, 1) := by decide +kernel
theorem dL_odds_1 : decode cL_odds 1 = .ok (.iconst 0, 1) := by decide +kernel
theorem dL_odds_2 : decode cL_odds 2 = .ok (.aload_n 0, 1) := by decide +kernel
theorem dL_odds_3 : decode cL_odds 3 = .ok (.iload_n 1, 1) := by decide +kernel
theorem dL_odds_4 : decode cL_odds 4 = .ok (.invokevirtual 122, 3) := by decide +kernel
theorem dL_odds_7 : decode cL_odds 7 = .ok (.lastore, 1) := by decide +kernel
theorem dL_odds_8 : decode cL_odds 8 = .ok (.goto 6, 3) := by decide +kernel
theorem dL_odds_11 : decode cL_odds 11 = .ok (.astore_n 3, 1) := by decide +kernel
theorem dL_odds_12 : decode cL_odds 12 = .ok (.iconst 1, 1) := by decide +kernel
theorem dL_odds_13 : decode cL_odds 13 = .ok (.ireturn, 1) := by decide +kernel
theorem dL_odds_14 : decode cL_odds 14 = .ok (.iconst 0, 1) := by decide +kernel
theorem dL_odds_15 : decode cL_odds 15 = .ok (.ireturn, 1) := by decide +kernel
theorem dL_fits_0 : decode cL_fits 0 = .ok (.aload_n 2, 1) := by decide +kernel
theorem dL_fits_1 : decode cL_fits 1 = .ok (.iconst 0, 1) := by decide +kernel
theorem dL_fits_2 : decode cL_fits 2 = .ok (.aload_n 0, 1) := by decide +kernel
theorem dL_fits_3 : decode cL_fits 3 = .ok (.iload_n 1, 1) := by decide +kernel
theorem dL_fits_4 : decode cL_fits 4 = .ok (.invokevirtual 126, 3) := by decide +kernel
theorem dL_fits_7 : decode cL_fits 7 = .ok (.i2l, 1) := by decide +kernel
theorem dL_fits_8 : decode cL_fits 8 = .ok (.lastore, 1) := by decide +kernel
theorem dL_fits_9 : decode cL_fits 9 = .ok (.goto 6, 3) := by decide +kernel
theorem dL_fits_12 : decode cL_fits 12 = .ok (.astore_n 3, 1) := by decide +kernel
theorem dL_fits_13 : decode cL_fits 13 = .ok (.iconst 1, 1) := by decide +kernel
theorem dL_fits_14 : decode cL_fits 14 = .ok (.ireturn, 1) := by decide +kernel
theorem dL_fits_15 : decode cL_fits 15 = .ok (.iconst 0, 1) := by decide +kernel
theorem dL_fits_16 : decode cL_fits 16 = .ok (.ireturn, 1) := by decide +kernel
theorem dL_knowing_0 : decode cL_knowing 0 = .ok (.aload_n 3, 1) := by decide +kernel
theorem dL_knowing_1 : decode cL_knowing 1 = .ok (.iconst 0, 1) := by decide +kernel
theorem dL_knowing_2 : decode cL_knowing 2 = .ok (.aload_n 0, 1) := by decide +kernel
theorem dL_knowing_3 : decode cL_knowing 3 = .ok (.iload_n 1, 1) := by decide +kernel
theorem dL_knowing_4 : decode cL_knowing 4 = .ok (.iload_n 2, 1) := by decide +kernel
theorem dL_knowing_5 : decode cL_knowing 5 = .ok (.invokevirtual 129, 3) := by decide +kernel
theorem dL_knowing_8 : decode cL_knowing 8 = .ok (.i2l, 1) := by decide +kernel
theorem dL_knowing_9 : decode cL_knowing 9 = .ok (.lastore, 1) := by decide +kernel
theorem dL_knowing_10 : decode cL_knowing 10 = .ok (.goto 11, 3) := by decide +kernel
theorem dL_knowing_13 : decode cL_knowing 13 = .ok (.astore 4, 2) := by decide +kernel
theorem dL_knowing_15 : decode cL_knowing 15 = .ok (.iconst 1, 1) := by decide +kernel
theorem dL_knowing_16 : decode cL_knowing 16 = .ok (.ireturn, 1) := by decide +kernel
theorem dL_knowing_17 : decode cL_knowing 17 = .ok (.astore 4, 2) := by decide +kernel
theorem dL_knowing_19 : decode cL_knowing 19 = .ok (.iconst 2, 1) := by decide +kernel
theorem dL_knowing_20 : decode cL_knowing 20 = .ok (.ireturn, 1) := by decide +kernel
theorem dL_knowing_21 : decode cL_knowing 21 = .ok (.iconst 0, 1) := by decide +kernel
theorem dL_knowing_22 : decode cL_knowing 22 = .ok (.ireturn, 1) := by decide +kernel
theorem dL_crossing_0 : decode cL_crossing 0 = .ok (.aload 5, 2) := by decide +kernel
theorem dL_crossing_2 : decode cL_crossing 2 = .ok (.iconst 0, 1) := by decide +kernel
theorem dL_crossing_3 : decode cL_crossing 3 = .ok (.aload_n 0, 1) := by decide +kernel
theorem dL_crossing_4 : decode cL_crossing 4 = .ok (.iload_n 1, 1) := by decide +kernel
theorem dL_crossing_5 : decode cL_crossing 5 = .ok (.iload_n 2, 1) := by decide +kernel
theorem dL_crossing_6 : decode cL_crossing 6 = .ok (.iload_n 3, 1) := by decide +kernel
theorem dL_crossing_7 : decode cL_crossing 7 = .ok (.iload 4, 2) := by decide +kernel
theorem dL_crossing_9 : decode cL_crossing 9 = .ok (.invokevirtual 132, 3) := by decide +kernel
theorem dL_crossing_12 : decode cL_crossing 12 = .ok (.i2l, 1) := by decide +kernel
theorem dL_crossing_13 : decode cL_crossing 13 = .ok (.lastore, 1) := by decide +kernel
theorem dL_crossing_14 : decode cL_crossing 14 = .ok (.goto 15, 3) := by decide +kernel
theorem dL_crossing_17 : decode cL_crossing 17 = .ok (.astore 6, 2) := by decide +kernel
theorem dL_crossing_19 : decode cL_crossing 19 = .ok (.iconst 1, 1) := by decide +kernel
theorem dL_crossing_20 : decode cL_crossing 20 = .ok (.ireturn, 1) := by decide +kernel
theorem dL_crossing_21 : decode cL_crossing 21 = .ok (.astore 6, 2) := by decide +kernel
theorem dL_crossing_23 : decode cL_crossing 23 = .ok (.iconst 2, 1) := by decide +kernel
theorem dL_crossing_24 : decode cL_crossing 24 = .ok (.ireturn, 1) := by decide +kernel
theorem dL_crossing_25 : decode cL_crossing 25 = .ok (.astore 6, 2) := by decide +kernel
theorem dL_crossing_27 : decode cL_crossing 27 = .ok (.iconst 3, 1) := by decide +kernel
theorem dL_crossing_28 : decode cL_crossing 28 = .ok (.ireturn, 1) := by decide +kernel
theorem dL_crossing_29 : decode cL_crossing 29 = .ok (.iconst 0, 1) := by decide +kernel
theorem dL_crossing_30 : decode cL_crossing 30 = .ok (.ireturn, 1) := by decide +kernel
theorem dL_law__0 : decode cL_law_ 0 = .ok (.new 8, 3) := by decide +kernel
theorem dL_law__3 : decode cL_law_ 3 = .ok (.dup, 1) := by decide +kernel
theorem dL_law__4 : decode cL_law_ 4 = .ok (.invokespecial 135, 3) := by decide +kernel
theorem dL_law__7 : decode cL_law_ 7 = .ok (.astore_n 1, 1) := by decide +kernel
theorem dL_law__8 : decode cL_law_ 8 = .ok (.new 136, 3) := by decide +kernel
theorem dL_law__11 : decode cL_law_ 11 = .ok (.dup, 1) := by decide +kernel
theorem dL_law__12 : decode cL_law_ 12 = .ok (.invokespecial 138, 3) := by decide +kernel
theorem dL_law__15 : decode cL_law_ 15 = .ok (.astore_n 2, 1) := by decide +kernel
theorem dL_law__16 : decode cL_law_ 16 = .ok (.iconst 1, 1) := by decide +kernel
theorem dL_law__17 : decode cL_law_ 17 = .ok (.newarray .long, 2) := by decide +kernel
theorem dL_law__19 : decode cL_law_ 19 = .ok (.astore_n 3, 1) := by decide +kernel
theorem dL_law__20 : decode cL_law_ 20 = .ok (.iconst 0, 1) := by decide +kernel
theorem dL_law__21 : decode cL_law_ 21 = .ok (.istore 4, 2) := by decide +kernel
theorem dL_law__23 : decode cL_law_ 23 = .ok (.iload 4, 2) := by decide +kernel
theorem dL_law__25 : decode cL_law_ 25 = .ok (.aload_n 0, 1) := by decide +kernel
theorem dL_law__26 : decode cL_law_ 26 = .ok (.arraylength, 1) := by decide +kernel
theorem dL_law__27 : decode cL_law_ 27 = .ok (.bipush 7, 2) := by decide +kernel
theorem dL_law__29 : decode cL_law_ 29 = .ok (.isub, 1) := by decide +kernel
theorem dL_law__30 : decode cL_law_ 30 = .ok (.if_icmp .gt 3203, 3) := by decide +kernel
theorem dL_law__33 : decode cL_law_ 33 = .ok (.aload_n 0, 1) := by decide +kernel
theorem dL_law__34 : decode cL_law_ 34 = .ok (.iload 4, 2) := by decide +kernel
theorem dL_law__36 : decode cL_law_ 36 = .ok (.iaload, 1) := by decide +kernel
theorem dL_law__37 : decode cL_law_ 37 = .ok (.bipush 63, 2) := by decide +kernel
theorem dL_law__39 : decode cL_law_ 39 = .ok (.iand, 1) := by decide +kernel
theorem dL_law__40 : decode cL_law_ 40 = .ok (.tableswitch 3187 0 43 #[192, 265, 321, 377, 433, 446, 514, 606, 674, 742, 838, 930, 1010, 1078, 1146, 1238, 1342, 1422, 1509, 1589, 1681, 1749, 1805, 1885, 1981, 2049, 2117, 2209, 2301, 2419, 2499, 2555, 2635, 2715, 2783, 2839, 2894, 2907, 2963, 2976, 3044, 3136, 3149, 3162], 192) := by decide +kernel
theorem dL_law__232 : decode cL_law_ 232 = .ok (.aload_n 1, 1) := by decide +kernel
theorem dL_law__233 : decode cL_law_ 233 = .ok (.aload_n 0, 1) := by decide +kernel
theorem dL_law__234 : decode cL_law_ 234 = .ok (.iload 4, 2) := by decide +kernel
theorem dL_law__236 : decode cL_law_ 236 = .ok (.iconst 1, 1) := by decide +kernel
theorem dL_law__237 : decode cL_law_ 237 = .ok (.iadd, 1) := by decide +kernel
theorem dL_law__238 : decode cL_law_ 238 = .ok (.iaload, 1) := by decide +kernel
theorem dL_law__239 : decode cL_law_ 239 = .ok (.aload_n 0, 1) := by decide +kernel
theorem dL_law__240 : decode cL_law_ 240 = .ok (.iload 4, 2) := by decide +kernel
theorem dL_law__242 : decode cL_law_ 242 = .ok (.iconst 2, 1) := by decide +kernel
theorem dL_law__243 : decode cL_law_ 243 = .ok (.iadd, 1) := by decide +kernel
theorem dL_law__244 : decode cL_law_ 244 = .ok (.iaload, 1) := by decide +kernel
theorem dL_law__245 : decode cL_law_ 245 = .ok (.aload_n 0, 1) := by decide +kernel
theorem dL_law__246 : decode cL_law_ 246 = .ok (.iload 4, 2) := by decide +kernel
theorem dL_law__248 : decode cL_law_ 248 = .ok (.iconst 3, 1) := by decide +kernel
theorem dL_law__249 : decode cL_law_ 249 = .ok (.iadd, 1) := by decide +kernel
theorem dL_law__250 : decode cL_law_ 250 = .ok (.iaload, 1) := by decide +kernel
theorem dL_law__251 : decode cL_law_ 251 = .ok (.aload_n 0, 1) := by decide +kernel
theorem dL_law__252 : decode cL_law_ 252 = .ok (.iload 4, 2) := by decide +kernel
theorem dL_law__254 : decode cL_law_ 254 = .ok (.iconst 4, 1) := by decide +kernel
theorem dL_law__255 : decode cL_law_ 255 = .ok (.iadd, 1) := by decide +kernel
theorem dL_law__256 : decode cL_law_ 256 = .ok (.iaload, 1) := by decide +kernel
theorem dL_law__257 : decode cL_law_ 257 = .ok (.aload_n 0, 1) := by decide +kernel
theorem dL_law__258 : decode cL_law_ 258 = .ok (.iload 4, 2) := by decide +kernel
theorem dL_law__260 : decode cL_law_ 260 = .ok (.iconst 5, 1) := by decide +kernel
theorem dL_law__261 : decode cL_law_ 261 = .ok (.iadd, 1) := by decide +kernel
theorem dL_law__262 : decode cL_law_ 262 = .ok (.iaload, 1) := by decide +kernel
theorem dL_law__263 : decode cL_law_ 263 = .ok (.invokevirtual 139, 3) := by decide +kernel
theorem dL_law__266 : decode cL_law_ 266 = .ok (.aload_n 2, 1) := by decide +kernel
theorem dL_law__267 : decode cL_law_ 267 = .ok (.aload_n 0, 1) := by decide +kernel
theorem dL_law__268 : decode cL_law_ 268 = .ok (.iload 4, 2) := by decide +kernel
theorem dL_law__270 : decode cL_law_ 270 = .ok (.iconst 1, 1) := by decide +kernel
theorem dL_law__271 : decode cL_law_ 271 = .ok (.iadd, 1) := by decide +kernel
theorem dL_law__272 : decode cL_law_ 272 = .ok (.iaload, 1) := by decide +kernel
theorem dL_law__273 : decode cL_law_ 273 = .ok (.aload_n 0, 1) := by decide +kernel
theorem dL_law__274 : decode cL_law_ 274 = .ok (.iload 4, 2) := by decide +kernel
theorem dL_law__276 : decode cL_law_ 276 = .ok (.iconst 2, 1) := by decide +kernel
theorem dL_law__277 : decode cL_law_ 277 = .ok (.iadd, 1) := by decide +kernel
theorem dL_law__278 : decode cL_law_ 278 = .ok (.iaload, 1) := by decide +kernel
theorem dL_law__279 : decode cL_law_ 279 = .ok (.aload_n 0, 1) := by decide +kernel
theorem dL_law__280 : decode cL_law_ 280 = .ok (.iload 4, 2) := by decide +kernel
theorem dL_law__282 : decode cL_law_ 282 = .ok (.iconst 3, 1) := by decide +kernel
theorem dL_law__283 : decode cL_law_ 283 = .ok (.iadd, 1) := by decide +kernel
theorem dL_law__284 : decode cL_law_ 284 = .ok (.iaload, 1) := by decide +kernel
theorem dL_law__285 : decode cL_law_ 285 = .ok (.aload_n 0, 1) := by decide +kernel
theorem dL_law__286 : decode cL_law_ 286 = .ok (.iload 4, 2) := by decide +kernel
theorem dL_law__288 : decode cL_law_ 288 = .ok (.iconst 4, 1) := by decide +kernel
theorem dL_law__289 : decode cL_law_ 289 = .ok (.iadd, 1) := by decide +kernel
theorem dL_law__290 : decode cL_law_ 290 = .ok (.iaload, 1) := by decide +kernel
theorem dL_law__291 : decode cL_law_ 291 = .ok (.aload_n 0, 1) := by decide +kernel
theorem dL_law__292 : decode cL_law_ 292 = .ok (.iload 4, 2) := by decide +kernel
theorem dL_law__294 : decode cL_law_ 294 = .ok (.iconst 5, 1) := by decide +kernel
theorem dL_law__295 : decode cL_law_ 295 = .ok (.iadd, 1) := by decide +kernel
theorem dL_law__296 : decode cL_law_ 296 = .ok (.iaload, 1) := by decide +kernel
theorem dL_law__297 : decode cL_law_ 297 = .ok (.invokevirtual 142, 3) := by decide +kernel
theorem dL_law__300 : decode cL_law_ 300 = .ok (.if_icmp .eq 2927, 3) := by decide +kernel
theorem dL_law__303 : decode cL_law_ 303 = .ok (.iconst 0, 1) := by decide +kernel
theorem dL_law__304 : decode cL_law_ 304 = .ok (.ireturn, 1) := by decide +kernel
theorem dL_law__305 : decode cL_law_ 305 = .ok (.aload_n 1, 1) := by decide +kernel
theorem dL_law__306 : decode cL_law_ 306 = .ok (.aload_n 0, 1) := by decide +kernel
theorem dL_law__307 : decode cL_law_ 307 = .ok (.iload 4, 2) := by decide +kernel
theorem dL_law__309 : decode cL_law_ 309 = .ok (.iconst 1, 1) := by decide +kernel
theorem dL_law__310 : decode cL_law_ 310 = .ok (.iadd, 1) := by decide +kernel
theorem dL_law__311 : decode cL_law_ 311 = .ok (.iaload, 1) := by decide +kernel
theorem dL_law__312 : decode cL_law_ 312 = .ok (.aload_n 3, 1) := by decide +kernel
theorem dL_law__313 : decode cL_law_ 313 = .ok (.invokestatic 143, 3) := by decide +kernel
theorem dL_law__316 : decode cL_law_ 316 = .ok (.istore 5, 2) := by decide +kernel
theorem dL_law__318 : decode cL_law_ 318 = .ok (.aload_n 2, 1) := by decide +kernel
theorem dL_law__319 : decode cL_law_ 319 = .ok (.aload_n 0, 1) := by decide +kernel
theorem dL_law__320 : decode cL_law_ 320 = .ok (.iload 4, 2) := by decide +kernel
theorem dL_law__322 : decode cL_law_ 322 = .ok (.iconst 1, 1) := by decide +kernel
theorem dL_law__323 : decode cL_law_ 323 = .ok (.iadd, 1) := by decide +kernel
theorem dL_law__324 : decode cL_law_ 324 = .ok (.iaload, 1) := by decide +kernel
theorem dL_law__325 : decode cL_law_ 325 = .ok (.invokevirtual 148, 3) := by decide +kernel
theorem dL_law__328 : decode cL_law_ 328 = .ok (.istore 6, 2) := by decide +kernel
theorem dL_law__330 : decode cL_law_ 330 = .ok (.aload_n 2, 1) := by decide +kernel
theorem dL_law__331 : decode cL_law_ 331 = .ok (.invokevirtual 149, 3) := by decide +kernel
theorem dL_law__334 : decode cL_law_ 334 = .ok (.iload 5, 2) := by decide +kernel
theorem dL_law__336 : decode cL_law_ 336 = .ok (.if_icmp .eq 5, 3) := by decide +kernel
theorem dL_law__339 : decode cL_law_ 339 = .ok (.iconst 0, 1) := by decide +kernel
theorem dL_law__340 : decode cL_law_ 340 = .ok (.ireturn, 1) := by decide +kernel
theorem dL_law__341 : decode cL_law_ 341 = .ok (.iload 5, 2) := by decide +kernel
theorem dL_law__343 : decode cL_law_ 343 = .ok (.ifCond .ne 15, 3) := by decide +kernel
theorem dL_law__346 : decode cL_law_ 346 = .ok (.aload_n 3, 1) := by decide +kernel
theorem dL_law__347 : decode cL_law_ 347 = .ok (.iconst 0, 1) := by decide +kernel
theorem dL_law__348 : decode cL_law_ 348 = .ok (.laload, 1) := by decide +kernel
theorem dL_law__349 : decode cL_law_ 349 = .ok (.iload 6, 2) := by decide +kernel
theorem dL_law__351 : decode cL_law_ 351 = .ok (.i2l, 1) := by decide +kernel
theorem dL_law__352 : decode cL_law_ 352 = .ok (.lcmp, 1) := by decide +kernel
theorem dL_law__353 : decode cL_law_ 353 = .ok (.ifCond .eq 5, 3) := by decide +kernel
theorem dL_law__356 : decode cL_law_ 356 = .ok (.iconst 0, 1) := by decide +kernel
theorem dL_law__357 : decode cL_law_ 357 = .ok (.ireturn, 1) := by decide +kernel
theorem dL_law__358 : decode cL_law_ 358 = .ok (.goto 2869, 3) := by decide +kernel
theorem dL_law__361 : decode cL_law_ 361 = .ok (.aload_n 1, 1) := by decide +kernel
theorem dL_law__362 : decode cL_law_ 362 = .ok (.aload_n 0, 1) := by decide +kernel
theorem dL_law__363 : decode cL_law_ 363 = .ok (.iload 4, 2) := by decide +kernel
theorem dL_law__365 : decode cL_law_ 365 = .ok (.iconst 1, 1) := by decide +kernel
theorem dL_law__366 : decode cL_law_ 366 = .ok (.iadd, 1) := by decide +kernel
theorem dL_law__367 : decode cL_law_ 367 = .ok (.iaload, 1) := by decide +kernel
theorem dL_law__368 : decode cL_law_ 368 = .ok (.aload_n 3, 1) := by decide +kernel
theorem dL_law__369 : decode cL_law_ 369 = .ok (.invokestatic 153, 3) := by decide +kernel
theorem dL_law__372 : decode cL_law_ 372 = .ok (.istore 5, 2) := by decide +kernel
theorem dL_law__374 : decode cL_law_ 374 = .ok (.aload_n 2, 1) := by decide +kernel
theorem dL_law__375 : decode cL_law_ 375 = .ok (.aload_n 0, 1) := by decide +kernel
theorem dL_law__376 : decode cL_law_ 376 = .ok (.iload 4, 2) := by decide +kernel
theorem dL_law__378 : decode cL_law_ 378 = .ok (.iconst 1, 1) := by decide +kernel
theorem dL_law__379 : decode cL_law_ 379 = .ok (.iadd, 1) := by decide +kernel
theorem dL_law__380 : decode cL_law_ 380 = .ok (.iaload, 1) := by decide +kernel
theorem dL_law__381 : decode cL_law_ 381 = .ok (.invokevirtual 155, 3) := by decide +kernel
theorem dL_law__384 : decode cL_law_ 384 = .ok (.istore 6, 2) := by decide +kernel
theorem dL_law__386 : decode cL_law_ 386 = .ok (.aload_n 2, 1) := by decide +kernel
theorem dL_law__387 : decode cL_law_ 387 = .ok (.invokevirtual 149, 3) := by decide +kernel
theorem dL_law__390 : decode cL_law_ 390 = .ok (.iload 5, 2) := by decide +kernel
theorem dL_law__392 : decode cL_law_ 392 = .ok (.if_icmp .eq 5, 3) := by decide +kernel
theorem dL_law__395 : decode cL_law_ 395 = .ok (.iconst 0, 1) := by decide +kernel
theorem dL_law__396 : decode cL_law_ 396 = .ok (.ireturn, 1) := by decide +kernel
theorem dL_law__397 : decode cL_law_ 397 = .ok (.iload 5, 2) := by decide +kernel
theorem dL_law__399 : decode cL_law_ 399 = .ok (.ifCond .ne 15, 3) := by decide +kernel
theorem dL_law__402 : decode cL_law_ 402 = .ok (.aload_n 3, 1) := by decide +kernel
theorem dL_law__403 : decode cL_law_ 403 = .ok (.iconst 0, 1) := by decide +kernel
theorem dL_law__404 : decode cL_law_ 404 = .ok (.laload, 1) := by decide +kernel
theorem dL_law__405 : decode cL_law_ 405 = .ok (.iload 6, 2) := by decide +kernel
theorem dL_law__407 : decode cL_law_ 407 = .ok (.i2l, 1) := by decide +kernel
theorem dL_law__408 : decode cL_law_ 408 = .ok (.lcmp, 1) := by decide +kernel
theorem dL_law__409 : decode cL_law_ 409 = .ok (.ifCond .eq 5, 3) := by decide +kernel
theorem dL_law__412 : decode cL_law_ 412 = .ok (.iconst 0, 1) := by decide +kernel
theorem dL_law__413 : decode cL_law_ 413 = .ok (.ireturn, 1) := by decide +kernel
theorem dL_law__414 : decode cL_law_ 414 = .ok (.goto 2813, 3) := by decide +kernel
theorem dL_law__417 : decode cL_law_ 417 = .ok (.aload_n 1, 1) := by decide +kernel
theorem dL_law__418 : decode cL_law_ 418 = .ok (.aload_n 0, 1) := by decide +kernel
theorem dL_law__419 : decode cL_law_ 419 = .ok (.iload 4, 2) := by decide +kernel
theorem dL_law__421 : decode cL_law_ 421 = .ok (.iconst 1, 1) := by decide +kernel
theorem dL_law__422 : decode cL_law_ 422 = .ok (.iadd, 1) := by decide +kernel
theorem dL_law__423 : decode cL_law_ 423 = .ok (.iaload, 1) := by decide +kernel
theorem dL_law__424 : decode cL_law_ 424 = .ok (.aload_n 3, 1) := by decide +kernel
theorem dL_law__425 : decode cL_law_ 425 = .ok (.invokestatic 156, 3) := by decide +kernel
theorem dL_law__428 : decode cL_law_ 428 = .ok (.istore 5, 2) := by decide +kernel
theorem dL_law__430 : decode cL_law_ 430 = .ok (.aload_n 2, 1) := by decide +kernel
theorem dL_law__431 : decode cL_law_ 431 = .ok (.aload_n 0, 1) := by decide +kernel
theorem dL_law__432 : decode cL_law_ 432 = .ok (.iload 4, 2) := by decide +kernel
theorem dL_law__434 : decode cL_law_ 434 = .ok (.iconst 1, 1) := by decide +kernel
theorem dL_law__435 : decode cL_law_ 435 = .ok (.iadd, 1) := by decide +kernel
theorem dL_law__436 : decode cL_law_ 436 = .ok (.iaload, 1) := by decide +kernel
theorem dL_law__437 : decode cL_law_ 437 = .ok (.invokevirtual 158, 3) := by decide +kernel
theorem dL_law__440 : decode cL_law_ 440 = .ok (.istore 6, 2) := by decide +kernel
theorem dL_law__442 : decode cL_law_ 442 = .ok (.aload_n 2, 1) := by decide +kernel
theorem dL_law__443 : decode cL_law_ 443 = .ok (.invokevirtual 149, 3) := by decide +kernel
theorem dL_law__446 : decode cL_law_ 446 = .ok (.iload 5, 2) := by decide +kernel
theorem dL_law__448 : decode cL_law_ 448 = .ok (.if_icmp .eq 5, 3) := by decide +kernel
theorem dL_law__451 : decode cL_law_ 451 = .ok (.iconst 0, 1) := by decide +kernel
theorem dL_law__452 : decode cL_law_ 452 = .ok (.ireturn, 1) := by decide +kernel
theorem dL_law__453 : decode cL_law_ 453 = .ok (.iload 5, 2) := by decide +kernel
theorem dL_law__455 : decode cL_law_ 455 = .ok (.ifCond .ne 15, 3) := by decide +kernel
theorem dL_law__458 : decode cL_law_ 458 = .ok (.aload_n 3, 1) := by decide +kernel
theorem dL_law__459 : decode cL_law_ 459 = .ok (.iconst 0, 1) := by decide +kernel
theorem dL_law__460 : decode cL_law_ 460 = .ok (.laload, 1) := by decide +kernel
theorem dL_law__461 : decode cL_law_ 461 = .ok (.iload 6, 2) := by decide +kernel
theorem dL_law__463 : decode cL_law_ 463 = .ok (.i2l, 1) := by decide +kernel
theorem dL_law__464 : decode cL_law_ 464 = .ok (.lcmp, 1) := by decide +kernel
theorem dL_law__465 : decode cL_law_ 465 = .ok (.ifCond .eq 5, 3) := by decide +kernel
theorem dL_law__468 : decode cL_law_ 468 = .ok (.iconst 0, 1) := by decide +kernel
theorem dL_law__469 : decode cL_law_ 469 = .ok (.ireturn, 1) := by decide +kernel
theorem dL_law__470 : decode cL_law_ 470 = .ok (.goto 2757, 3) := by decide +kernel
theorem dL_law__473 : decode cL_law_ 473 = .ok (.aload_n 1, 1) := by decide +kernel
theorem dL_law__474 : decode cL_law_ 474 = .ok (.invokevirtual 159, 3) := by decide +kernel
theorem dL_law__477 : decode cL_law_ 477 = .ok (.aload_n 2, 1) := by decide +kernel
theorem dL_law__478 : decode cL_law_ 478 = .ok (.invokevirtual 162, 3) := by decide +kernel
theorem dL_law__481 : decode cL_law_ 481 = .ok (.if_icmp .eq 2746, 3) := by decide +kernel
theorem dL_law__484 : decode cL_law_ 484 = .ok (.iconst 0, 1) := by decide +kernel
theorem dL_law__485 : decode cL_law_ 485 = .ok (.ireturn, 1) := by decide +kernel
theorem dL_law__486 : decode cL_law_ 486 = .ok (.aload_n 1, 1) := by decide +kernel
theorem dL_law__487 : decode cL_law_ 487 = .ok (.aload_n 0, 1) := by decide +kernel
theorem dL_law__488 : decode cL_law_ 488 = .ok (.iload 4, 2) := by decide +kernel
theorem dL_law__490 : decode cL_law_ 490 = .ok (.iconst 1, 1) := by decide +kernel
theorem dL_law__491 : decode cL_law_ 491 = .ok (.iadd, 1) := by decide +kernel
theorem dL_law__492 : decode cL_law_ 492 = .ok (.iaload, 1) := by decide +kernel
theorem dL_law__493 : decode cL_law_ 493 = .ok (.aload_n 0, 1) := by decide +kernel
theorem dL_law__494 : decode cL_law_ 494 = .ok (.iload 4, 2) := by decide +kernel
theorem dL_law__496 : decode cL_law_ 496 = .ok (.iconst 2, 1) := by decide +kernel
theorem dL_law__497 : decode cL_law_ 497 = .ok (.iadd, 1) := by decide +kernel
theorem dL_law__498 : decode cL_law_ 498 = .ok (.iaload, 1) := by decide +kernel
theorem dL_law__499 : decode cL_law_ 499 = .ok (.aload_n 3, 1) := by decide +kernel
theorem dL_law__500 : decode cL_law_ 500 = .ok (.invokestatic 163, 3) := by decide +kernel
theorem dL_law__503 : decode cL_law_ 503 = .ok (.istore 5, 2) := by decide +kernel
theorem dL_law__505 : decode cL_law_ 505 = .ok (.aload_n 2, 1) := by decide +kernel
theorem dL_law__506 : decode cL_law_ 506 = .ok (.aload_n 0, 1) := by decide +kernel
theorem dL_law__507 : decode cL_law_ 507 = .ok (.iload 4, 2) := by decide +kernel
theorem dL_law__509 : decode cL_law_ 509 = .ok (.iconst 1, 1) := by decide +kernel
theorem dL_law__510 : decode cL_law_ 510 = .ok (.iadd, 1) := by decide +kernel
theorem dL_law__511 : decode cL_law_ 511 = .ok (.iaload, 1) := by decide +kernel
theorem dL_law__512 : decode cL_law_ 512 = .ok (.aload_n 0, 1) := by decide +kernel
theorem dL_law__513 : decode cL_law_ 513 = .ok (.iload 4, 2) := by decide +kernel
theorem dL_law__515 : decode cL_law_ 515 = .ok (.iconst 2, 1) := by decide +kernel
theorem dL_law__516 : decode cL_law_ 516 = .ok (.iadd, 1) := by decide +kernel
theorem dL_law__517 : decode cL_law_ 517 = .ok (.iaload, 1) := by decide +kernel
theorem dL_law__518 : decode cL_law_ 518 = .ok (.invokevirtual 166, 3) := by decide +kernel
theorem dL_law__521 : decode cL_law_ 521 = .ok (.istore 6, 2) := by decide +kernel
theorem dL_law__523 : decode cL_law_ 523 = .ok (.aload_n 2, 1) := by decide +kernel
theorem dL_law__524 : decode cL_law_ 524 = .ok (.invokevirtual 149, 3) := by decide +kernel
theorem dL_law__527 : decode cL_law_ 527 = .ok (.iload 5, 2) := by decide +kernel
theorem dL_law__529 : decode cL_law_ 529 = .ok (.if_icmp .eq 5, 3) := by decide +kernel
theorem dL_law__532 : decode cL_law_ 532 = .ok (.iconst 0, 1) := by decide +kernel
theorem dL_law__533 : decode cL_law_ 533 = .ok (.ireturn, 1) := by decide +kernel
theorem dL_law__534 : decode cL_law_ 534 = .ok (.iload 5, 2) := by decide +kernel
theorem dL_law__536 : decode cL_law_ 536 = .ok (.ifCond .ne 15, 3) := by decide +kernel
theorem dL_law__539 : decode cL_law_ 539 = .ok (.aload_n 3, 1) := by decide +kernel
theorem dL_law__540 : decode cL_law_ 540 = .ok (.iconst 0, 1) := by decide +kernel
theorem dL_law__541 : decode cL_law_ 541 = .ok (.laload, 1) := by decide +kernel
theorem dL_law__542 : decode cL_law_ 542 = .ok (.iload 6, 2) := by decide +kernel
theorem dL_law__544 : decode cL_law_ 544 = .ok (.i2l, 1) := by decide +kernel
theorem dL_law__545 : decode cL_law_ 545 = .ok (.lcmp, 1) := by decide +kernel
theorem dL_law__546 : decode cL_law_ 546 = .ok (.ifCond .eq 5, 3) := by decide +kernel
theorem dL_law__549 : decode cL_law_ 549 = .ok (.iconst 0, 1) := by decide +kernel
theorem dL_law__550 : decode cL_law_ 550 = .ok (.ireturn, 1) := by decide +kernel
theorem dL_law__551 : decode cL_law_ 551 = .ok (.goto 2676, 3) := by decide +kernel
theorem dL_law__554 : decode cL_law_ 554 = .ok (.aload_n 1, 1) := by decide +kernel
theorem dL_law__555 : decode cL_law_ 555 = .ok (.aload_n 0, 1) := by decide +kernel
theorem dL_law__556 : decode cL_law_ 556 = .ok (.iload 4, 2) := by decide +kernel
theorem dL_law__558 : decode cL_law_ 558 = .ok (.iconst 1, 1) := by decide +kernel
theorem dL_law__559 : decode cL_law_ 559 = .ok (.iadd, 1) := by decide +kernel
theorem dL_law__560 : decode cL_law_ 560 = .ok (.iaload, 1) := by decide +kernel
theorem dL_law__561 : decode cL_law_ 561 = .ok (.aload_n 0, 1) := by decide +kernel
theorem dL_law__562 : decode cL_law_ 562 = .ok (.iload 4, 2) := by decide +kernel
theorem dL_law__564 : decode cL_law_ 564 = .ok (.iconst 2, 1) := by decide +kernel
theorem dL_law__565 : decode cL_law_ 565 = .ok (.iadd, 1) := by decide +kernel
theorem dL_law__566 : decode cL_law_ 566 = .ok (.iaload, 1) := by decide +kernel
theorem dL_law__567 : decode cL_law_ 567 = .ok (.aload_n 0, 1) := by decide +kernel
theorem dL_law__568 : decode cL_law_ 568 = .ok (.iload 4, 2) := by decide +kernel
theorem dL_law__570 : decode cL_law_ 570 = .ok (.iconst 3, 1) := by decide +kernel
theorem dL_law__571 : decode cL_law_ 571 = .ok (.iadd, 1) := by decide +kernel
theorem dL_law__572 : decode cL_law_ 572 = .ok (.iaload, 1) := by decide +kernel
theorem dL_law__573 : decode cL_law_ 573 = .ok (.aload_n 0, 1) := by decide +kernel
theorem dL_law__574 : decode cL_law_ 574 = .ok (.iload 4, 2) := by decide +kernel
theorem dL_law__576 : decode cL_law_ 576 = .ok (.iconst 4, 1) := by decide +kernel
theorem dL_law__577 : decode cL_law_ 577 = .ok (.iadd, 1) := by decide +kernel
theorem dL_law__578 : decode cL_law_ 578 = .ok (.iaload, 1) := by decide +kernel
theorem dL_law__579 : decode cL_law_ 579 = .ok (.aload_n 3, 1) := by decide +kernel
theorem dL_law__580 : decode cL_law_ 580 = .ok (.invokestatic 167, 3) := by decide +kernel
theorem dL_law__583 : decode cL_law_ 583 = .ok (.istore 5, 2) := by decide +kernel
theorem dL_law__585 : decode cL_law_ 585 = .ok (.aload_n 2, 1) := by decide +kernel
theorem dL_law__586 : decode cL_law_ 586 = .ok (.aload_n 0, 1) := by decide +kernel
theorem dL_law__587 : decode cL_law_ 587 = .ok (.iload 4, 2) := by decide +kernel
theorem dL_law__589 : decode cL_law_ 589 = .ok (.iconst 1, 1) := by decide +kernel
theorem dL_law__590 : decode cL_law_ 590 = .ok (.iadd, 1) := by decide +kernel
theorem dL_law__591 : decode cL_law_ 591 = .ok (.iaload, 1) := by decide +kernel
theorem dL_law__592 : decode cL_law_ 592 = .ok (.aload_n 0, 1) := by decide +kernel
theorem dL_law__593 : decode cL_law_ 593 = .ok (.iload 4, 2) := by decide +kernel
theorem dL_law__595 : decode cL_law_ 595 = .ok (.iconst 2, 1) := by decide +kernel
theorem dL_law__596 : decode cL_law_ 596 = .ok (.iadd, 1) := by decide +kernel
theorem dL_law__597 : decode cL_law_ 597 = .ok (.iaload, 1) := by decide +kernel
theorem dL_law__598 : decode cL_law_ 598 = .ok (.aload_n 0, 1) := by decide +kernel
theorem dL_law__599 : decode cL_law_ 599 = .ok (.iload 4, 2) := by decide +kernel
theorem dL_law__601 : decode cL_law_ 601 = .ok (.iconst 3, 1) := by decide +kernel
theorem dL_law__602 : decode cL_law_ 602 = .ok (.iadd, 1) := by decide +kernel
theorem dL_law__603 : decode cL_law_ 603 = .ok (.iaload, 1) := by decide +kernel
theorem dL_law__604 : decode cL_law_ 604 = .ok (.aload_n 0, 1) := by decide +kernel
theorem dL_law__605 : decode cL_law_ 605 = .ok (.iload 4, 2) := by decide +kernel
theorem dL_law__607 : decode cL_law_ 607 = .ok (.iconst 4, 1) := by decide +kernel
theorem dL_law__608 : decode cL_law_ 608 = .ok (.iadd, 1) := by decide +kernel
theorem dL_law__609 : decode cL_law_ 609 = .ok (.iaload, 1) := by decide +kernel
theorem dL_law__610 : decode cL_law_ 610 = .ok (.invokevirtual 170, 3) := by decide +kernel
theorem dL_law__613 : decode cL_law_ 613 = .ok (.istore 6, 2) := by decide +kernel
theorem dL_law__615 : decode cL_law_ 615 = .ok (.aload_n 2, 1) := by decide +kernel
theorem dL_law__616 : decode cL_law_ 616 = .ok (.invokevirtual 149, 3) := by decide +kernel
theorem dL_law__619 : decode cL_law_ 619 = .ok (.iload 5, 2) := by decide +kernel
theorem dL_law__621 : decode cL_law_ 621 = .ok (.if_icmp .eq 5, 3) := by decide +kernel
theorem dL_law__624 : decode cL_law_ 624 = .ok (.iconst 0, 1) := by decide +kernel
theorem dL_law__625 : decode cL_law_ 625 = .ok (.ireturn, 1) := by decide +kernel
theorem dL_law__626 : decode cL_law_ 626 = .ok (.iload 5, 2) := by decide +kernel
theorem dL_law__628 : decode cL_law_ 628 = .ok (.ifCond .ne 15, 3) := by decide +kernel
theorem dL_law__631 : decode cL_law_ 631 = .ok (.aload_n 3, 1) := by decide +kernel
theorem dL_law__632 : decode cL_law_ 632 = .ok (.iconst 0, 1) := by decide +kernel
theorem dL_law__633 : decode cL_law_ 633 = .ok (.laload, 1) := by decide +kernel
theorem dL_law__634 : decode cL_law_ 634 = .ok (.iload 6, 2) := by decide +kernel
theorem dL_law__636 : decode cL_law_ 636 = .ok (.i2l, 1) := by decide +kernel
theorem dL_law__637 : decode cL_law_ 637 = .ok (.lcmp, 1) := by decide +kernel
theorem dL_law__638 : decode cL_law_ 638 = .ok (.ifCond .eq 5, 3) := by decide +kernel
theorem dL_law__641 : decode cL_law_ 641 = .ok (.iconst 0, 1) := by decide +kernel
theorem dL_law__642 : decode cL_law_ 642 = .ok (.ireturn, 1) := by decide +kernel
theorem dL_law__643 : decode cL_law_ 643 = .ok (.goto 2584, 3) := by decide +kernel
theorem dL_law__646 : decode cL_law_ 646 = .ok (.aload_n 1, 1) := by decide +kernel
theorem dL_law__647 : decode cL_law_ 647 = .ok (.aload_n 0, 1) := by decide +kernel
theorem dL_law__648 : decode cL_law_ 648 = .ok (.iload 4, 2) := by decide +kernel
theorem dL_law__650 : decode cL_law_ 650 = .ok (.iconst 1, 1) := by decide +kernel
theorem dL_law__651 : decode cL_law_ 651 = .ok (.iadd, 1) := by decide +kernel
theorem dL_law__652 : decode cL_law_ 652 = .ok (.iaload, 1) := by decide +kernel
theorem dL_law__653 : decode cL_law_ 653 = .ok (.aload_n 0, 1) := by decide +kernel
theorem dL_law__654 : decode cL_law_ 654 = .ok (.iload 4, 2) := by decide +kernel
theorem dL_law__656 : decode cL_law_ 656 = .ok (.iconst 2, 1) := by decide +kernel
theorem dL_law__657 : decode cL_law_ 657 = .ok (.iadd, 1) := by decide +kernel
theorem dL_law__658 : decode cL_law_ 658 = .ok (.iaload, 1) := by decide +kernel
theorem dL_law__659 : decode cL_law_ 659 = .ok (.aload_n 3, 1) := by decide +kernel
theorem dL_law__660 : decode cL_law_ 660 = .ok (.invokestatic 171, 3) := by decide +kernel
theorem dL_law__663 : decode cL_law_ 663 = .ok (.istore 5, 2) := by decide +kernel
theorem dL_law__665 : decode cL_law_ 665 = .ok (.aload_n 2, 1) := by decide +kernel
theorem dL_law__666 : decode cL_law_ 666 = .ok (.aload_n 0, 1) := by decide +kernel
theorem dL_law__667 : decode cL_law_ 667 = .ok (.iload 4, 2) := by decide +kernel
theorem dL_law__669 : decode cL_law_ 669 = .ok (.iconst 1, 1) := by decide +kernel
theorem dL_law__670 : decode cL_law_ 670 = .ok (.iadd, 1) := by decide +kernel
theorem dL_law__671 : decode cL_law_ 671 = .ok (.iaload, 1) := by decide +kernel
theorem dL_law__672 : decode cL_law_ 672 = .ok (.aload_n 0, 1) := by decide +kernel
theorem dL_law__673 : decode cL_law_ 673 = .ok (.iload 4, 2) := by decide +kernel
theorem dL_law__675 : decode cL_law_ 675 = .ok (.iconst 2, 1) := by decide +kernel
theorem dL_law__676 : decode cL_law_ 676 = .ok (.iadd, 1) := by decide +kernel
theorem dL_law__677 : decode cL_law_ 677 = .ok (.iaload, 1) := by decide +kernel
theorem dL_law__678 : decode cL_law_ 678 = .ok (.invokevirtual 173, 3) := by decide +kernel
theorem dL_law__681 : decode cL_law_ 681 = .ok (.istore 6, 2) := by decide +kernel
theorem dL_law__683 : decode cL_law_ 683 = .ok (.aload_n 2, 1) := by decide +kernel
theorem dL_law__684 : decode cL_law_ 684 = .ok (.invokevirtual 149, 3) := by decide +kernel
theorem dL_law__687 : decode cL_law_ 687 = .ok (.iload 5, 2) := by decide +kernel
theorem dL_law__689 : decode cL_law_ 689 = .ok (.if_icmp .eq 5, 3) := by decide +kernel
theorem dL_law__692 : decode cL_law_ 692 = .ok (.iconst 0, 1) := by decide +kernel
theorem dL_law__693 : decode cL_law_ 693 = .ok (.ireturn, 1) := by decide +kernel
theorem dL_law__694 : decode cL_law_ 694 = .ok (.iload 5, 2) := by decide +kernel
theorem dL_law__696 : decode cL_law_ 696 = .ok (.ifCond .ne 15, 3) := by decide +kernel
theorem dL_law__699 : decode cL_law_ 699 = .ok (.aload_n 3, 1) := by decide +kernel
theorem dL_law__700 : decode cL_law_ 700 = .ok (.iconst 0, 1) := by decide +kernel
theorem dL_law__701 : decode cL_law_ 701 = .ok (.laload, 1) := by decide +kernel
theorem dL_law__702 : decode cL_law_ 702 = .ok (.iload 6, 2) := by decide +kernel
theorem dL_law__704 : decode cL_law_ 704 = .ok (.i2l, 1) := by decide +kernel
theorem dL_law__705 : decode cL_law_ 705 = .ok (.lcmp, 1) := by decide +kernel
theorem dL_law__706 : decode cL_law_ 706 = .ok (.ifCond .eq 5, 3) := by decide +kernel
theorem dL_law__709 : decode cL_law_ 709 = .ok (.iconst 0, 1) := by decide +kernel
theorem dL_law__710 : decode cL_law_ 710 = .ok (.ireturn, 1) := by decide +kernel
theorem dL_law__711 : decode cL_law_ 711 = .ok (.goto 2516, 3) := by decide +kernel
theorem dL_law__714 : decode cL_law_ 714 = .ok (.aload_n 1, 1) := by decide +kernel
theorem dL_law__715 : decode cL_law_ 715 = .ok (.aload_n 0, 1) := by decide +kernel
theorem dL_law__716 : decode cL_law_ 716 = .ok (.iload 4, 2) := by decide +kernel
theorem dL_law__718 : decode cL_law_ 718 = .ok (.iconst 1, 1) := by decide +kernel
theorem dL_law__719 : decode cL_law_ 719 = .ok (.iadd, 1) := by decide +kernel
theorem dL_law__720 : decode cL_law_ 720 = .ok (.iaload, 1) := by decide +kernel
theorem dL_law__721 : decode cL_law_ 721 = .ok (.aload_n 0, 1) := by decide +kernel
theorem dL_law__722 : decode cL_law_ 722 = .ok (.iload 4, 2) := by decide +kernel
theorem dL_law__724 : decode cL_law_ 724 = .ok (.iconst 2, 1) := by decide +kernel
theorem dL_law__725 : decode cL_law_ 725 = .ok (.iadd, 1) := by decide +kernel
theorem dL_law__726 : decode cL_law_ 726 = .ok (.iaload, 1) := by decide +kernel
theorem dL_law__727 : decode cL_law_ 727 = .ok (.aload_n 3, 1) := by decide +kernel
theorem dL_law__728 : decode cL_law_ 728 = .ok (.invokestatic 174, 3) := by decide +kernel
theorem dL_law__731 : decode cL_law_ 731 = .ok (.istore 5, 2) := by decide +kernel
theorem dL_law__733 : decode cL_law_ 733 = .ok (.aload_n 2, 1) := by decide +kernel
theorem dL_law__734 : decode cL_law_ 734 = .ok (.aload_n 0, 1) := by decide +kernel
theorem dL_law__735 : decode cL_law_ 735 = .ok (.iload 4, 2) := by decide +kernel
theorem dL_law__737 : decode cL_law_ 737 = .ok (.iconst 1, 1) := by decide +kernel
theorem dL_law__738 : decode cL_law_ 738 = .ok (.iadd, 1) := by decide +kernel
theorem dL_law__739 : decode cL_law_ 739 = .ok (.iaload, 1) := by decide +kernel
theorem dL_law__740 : decode cL_law_ 740 = .ok (.aload_n 0, 1) := by decide +kernel
theorem dL_law__741 : decode cL_law_ 741 = .ok (.iload 4, 2) := by decide +kernel
theorem dL_law__743 : decode cL_law_ 743 = .ok (.iconst 2, 1) := by decide +kernel
theorem dL_law__744 : decode cL_law_ 744 = .ok (.iadd, 1) := by decide +kernel
theorem dL_law__745 : decode cL_law_ 745 = .ok (.iaload, 1) := by decide +kernel
theorem dL_law__746 : decode cL_law_ 746 = .ok (.invokevirtual 176, 3) := by decide +kernel
theorem dL_law__749 : decode cL_law_ 749 = .ok (.istore 6, 2) := by decide +kernel
theorem dL_law__751 : decode cL_law_ 751 = .ok (.aload_n 2, 1) := by decide +kernel
theorem dL_law__752 : decode cL_law_ 752 = .ok (.invokevirtual 149, 3) := by decide +kernel
theorem dL_law__755 : decode cL_law_ 755 = .ok (.iload 5, 2) := by decide +kernel
theorem dL_law__757 : decode cL_law_ 757 = .ok (.if_icmp .eq 5, 3) := by decide +kernel
theorem dL_law__760 : decode cL_law_ 760 = .ok (.iconst 0, 1) := by decide +kernel
theorem dL_law__761 : decode cL_law_ 761 = .ok (.ireturn, 1) := by decide +kernel
theorem dL_law__762 : decode cL_law_ 762 = .ok (.iload 5, 2) := by decide +kernel
theorem dL_law__764 : decode cL_law_ 764 = .ok (.ifCond .ne 15, 3) := by decide +kernel
theorem dL_law__767 : decode cL_law_ 767 = .ok (.aload_n 3, 1) := by decide +kernel
theorem dL_law__768 : decode cL_law_ 768 = .ok (.iconst 0, 1) := by decide +kernel
theorem dL_law__769 : decode cL_law_ 769 = .ok (.laload, 1) := by decide +kernel
theorem dL_law__770 : decode cL_law_ 770 = .ok (.iload 6, 2) := by decide +kernel
theorem dL_law__772 : decode cL_law_ 772 = .ok (.i2l, 1) := by decide +kernel
theorem dL_law__773 : decode cL_law_ 773 = .ok (.lcmp, 1) := by decide +kernel
theorem dL_law__774 : decode cL_law_ 774 = .ok (.ifCond .eq 5, 3) := by decide +kernel
theorem dL_law__777 : decode cL_law_ 777 = .ok (.iconst 0, 1) := by decide +kernel
theorem dL_law__778 : decode cL_law_ 778 = .ok (.ireturn, 1) := by decide +kernel
theorem dL_law__779 : decode cL_law_ 779 = .ok (.goto 2448, 3) := by decide +kernel
theorem dL_law__782 : decode cL_law_ 782 = .ok (.aload_n 1, 1) := by decide +kernel
theorem dL_law__783 : decode cL_law_ 783 = .ok (.aload_n 0, 1) := by decide +kernel
theorem dL_law__784 : decode cL_law_ 784 = .ok (.iload 4, 2) := by decide +kernel
theorem dL_law__786 : decode cL_law_ 786 = .ok (.iconst 1, 1) := by decide +kernel
theorem dL_law__787 : decode cL_law_ 787 = .ok (.iadd, 1) := by decide +kernel
theorem dL_law__788 : decode cL_law_ 788 = .ok (.iaload, 1) := by decide +kernel
theorem dL_law__789 : decode cL_law_ 789 = .ok (.aload_n 0, 1) := by decide +kernel
theorem dL_law__790 : decode cL_law_ 790 = .ok (.iload 4, 2) := by decide +kernel
theorem dL_law__792 : decode cL_law_ 792 = .ok (.iconst 2, 1) := by decide +kernel
theorem dL_law__793 : decode cL_law_ 793 = .ok (.iadd, 1) := by decide +kernel
theorem dL_law__794 : decode cL_law_ 794 = .ok (.iaload, 1) := by decide +kernel
theorem dL_law__795 : decode cL_law_ 795 = .ok (.aload_n 0, 1) := by decide +kernel
theorem dL_law__796 : decode cL_law_ 796 = .ok (.iload 4, 2) := by decide +kernel
theorem dL_law__798 : decode cL_law_ 798 = .ok (.iconst 3, 1) := by decide +kernel
theorem dL_law__799 : decode cL_law_ 799 = .ok (.iadd, 1) := by decide +kernel
theorem dL_law__800 : decode cL_law_ 800 = .ok (.iaload, 1) := by decide +kernel
theorem dL_law__801 : decode cL_law_ 801 = .ok (.ifCond .eq 7, 3) := by decide +kernel
theorem dL_law__804 : decode cL_law_ 804 = .ok (.iconst 1, 1) := by decide +kernel
theorem dL_law__805 : decode cL_law_ 805 = .ok (.goto 4, 3) := by decide +kernel
theorem dL_law__808 : decode cL_law_ 808 = .ok (.iconst 0, 1) := by decide +kernel
theorem dL_law__809 : decode cL_law_ 809 = .ok (.aload_n 3, 1) := by decide +kernel
theorem dL_law__810 : decode cL_law_ 810 = .ok (.invokestatic 177, 3) := by decide +kernel
theorem dL_law__813 : decode cL_law_ 813 = .ok (.istore 5, 2) := by decide +kernel
theorem dL_law__815 : decode cL_law_ 815 = .ok (.aload_n 2, 1) := by decide +kernel
theorem dL_law__816 : decode cL_law_ 816 = .ok (.aload_n 0, 1) := by decide +kernel
theorem dL_law__817 : decode cL_law_ 817 = .ok (.iload 4, 2) := by decide +kernel
theorem dL_law__819 : decode cL_law_ 819 = .ok (.iconst 1, 1) := by decide +kernel
theorem dL_law__820 : decode cL_law_ 820 = .ok (.iadd, 1) := by decide +kernel
theorem dL_law__821 : decode cL_law_ 821 = .ok (.iaload, 1) := by decide +kernel
theorem dL_law__822 : decode cL_law_ 822 = .ok (.aload_n 0, 1) := by decide +kernel
theorem dL_law__823 : decode cL_law_ 823 = .ok (.iload 4, 2) := by decide +kernel
theorem dL_law__825 : decode cL_law_ 825 = .ok (.iconst 2, 1) := by decide +kernel
theorem dL_law__826 : decode cL_law_ 826 = .ok (.iadd, 1) := by decide +kernel
theorem dL_law__827 : decode cL_law_ 827 = .ok (.iaload, 1) := by decide +kernel
theorem dL_law__828 : decode cL_law_ 828 = .ok (.aload_n 0, 1) := by decide +kernel
theorem dL_law__829 : decode cL_law_ 829 = .ok (.iload 4, 2) := by decide +kernel
theorem dL_law__831 : decode cL_law_ 831 = .ok (.iconst 3, 1) := by decide +kernel
theorem dL_law__832 : decode cL_law_ 832 = .ok (.iadd, 1) := by decide +kernel
theorem dL_law__833 : decode cL_law_ 833 = .ok (.iaload, 1) := by decide +kernel
theorem dL_law__834 : decode cL_law_ 834 = .ok (.ifCond .eq 7, 3) := by decide +kernel
theorem dL_law__837 : decode cL_law_ 837 = .ok (.iconst 1, 1) := by decide +kernel
theorem dL_law__838 : decode cL_law_ 838 = .ok (.goto 4, 3) := by decide +kernel
theorem dL_law__841 : decode cL_law_ 841 = .ok (.iconst 0, 1) := by decide +kernel
theorem dL_law__842 : decode cL_law_ 842 = .ok (.invokevirtual 180, 3) := by decide +kernel
theorem dL_law__845 : decode cL_law_ 845 = .ok (.istore 6, 2) := by decide +kernel
theorem dL_law__847 : decode cL_law_ 847 = .ok (.aload_n 2, 1) := by decide +kernel
theorem dL_law__848 : decode cL_law_ 848 = .ok (.invokevirtual 149, 3) := by decide +kernel
theorem dL_law__851 : decode cL_law_ 851 = .ok (.iload 5, 2) := by decide +kernel
theorem dL_law__853 : decode cL_law_ 853 = .ok (.if_icmp .eq 5, 3) := by decide +kernel
theorem dL_law__856 : decode cL_law_ 856 = .ok (.iconst 0, 1) := by decide +kernel
theorem dL_law__857 : decode cL_law_ 857 = .ok (.ireturn, 1) := by decide +kernel
theorem dL_law__858 : decode cL_law_ 858 = .ok (.iload 5, 2) := by decide +kernel
theorem dL_law__860 : decode cL_law_ 860 = .ok (.ifCond .ne 15, 3) := by decide +kernel
theorem dL_law__863 : decode cL_law_ 863 = .ok (.aload_n 3, 1) := by decide +kernel
theorem dL_law__864 : decode cL_law_ 864 = .ok (.iconst 0, 1) := by decide +kernel
theorem dL_law__865 : decode cL_law_ 865 = .ok (.laload, 1) := by decide +kernel
theorem dL_law__866 : decode cL_law_ 866 = .ok (.iload 6, 2) := by decide +kernel
theorem dL_law__868 : decode cL_law_ 868 = .ok (.i2l, 1) := by decide +kernel
theorem dL_law__869 : decode cL_law_ 869 = .ok (.lcmp, 1) := by decide +kernel
theorem dL_law__870 : decode cL_law_ 870 = .ok (.ifCond .eq 5, 3) := by decide +kernel
theorem dL_law__873 : decode cL_law_ 873 = .ok (.iconst 0, 1) := by decide +kernel
theorem dL_law__874 : decode cL_law_ 874 = .ok (.ireturn, 1) := by decide +kernel
theorem dL_law__875 : decode cL_law_ 875 = .ok (.goto 2352, 3) := by decide +kernel
theorem dL_law__878 : decode cL_law_ 878 = .ok (.aload_n 1, 1) := by decide +kernel
theorem dL_law__879 : decode cL_law_ 879 = .ok (.aload_n 0, 1) := by decide +kernel
theorem dL_law__880 : decode cL_law_ 880 = .ok (.iload 4, 2) := by decide +kernel
theorem dL_law__882 : decode cL_law_ 882 = .ok (.iconst 1, 1) := by decide +kernel
theorem dL_law__883 : decode cL_law_ 883 = .ok (.iadd, 1) := by decide +kernel
theorem dL_law__884 : decode cL_law_ 884 = .ok (.iaload, 1) := by decide +kernel
theorem dL_law__885 : decode cL_law_ 885 = .ok (.aload_n 0, 1) := by decide +kernel
theorem dL_law__886 : decode cL_law_ 886 = .ok (.iload 4, 2) := by decide +kernel
theorem dL_law__888 : decode cL_law_ 888 = .ok (.iconst 2, 1) := by decide +kernel
theorem dL_law__889 : decode cL_law_ 889 = .ok (.iadd, 1) := by decide +kernel
theorem dL_law__890 : decode cL_law_ 890 = .ok (.iaload, 1) := by decide +kernel
theorem dL_law__891 : decode cL_law_ 891 = .ok (.aload_n 0, 1) := by decide +kernel
theorem dL_law__892 : decode cL_law_ 892 = .ok (.iload 4, 2) := by decide +kernel
theorem dL_law__894 : decode cL_law_ 894 = .ok (.iconst 3, 1) := by decide +kernel
theorem dL_law__895 : decode cL_law_ 895 = .ok (.iadd, 1) := by decide +kernel
theorem dL_law__896 : decode cL_law_ 896 = .ok (.iaload, 1) := by decide +kernel
theorem dL_law__897 : decode cL_law_ 897 = .ok (.aload_n 0, 1) := by decide +kernel
theorem dL_law__898 : decode cL_law_ 898 = .ok (.iload 4, 2) := by decide +kernel
theorem dL_law__900 : decode cL_law_ 900 = .ok (.iconst 4, 1) := by decide +kernel
theorem dL_law__901 : decode cL_law_ 901 = .ok (.iadd, 1) := by decide +kernel
theorem dL_law__902 : decode cL_law_ 902 = .ok (.iaload, 1) := by decide +kernel
theorem dL_law__903 : decode cL_law_ 903 = .ok (.aload_n 3, 1) := by decide +kernel
theorem dL_law__904 : decode cL_law_ 904 = .ok (.invokestatic 181, 3) := by decide +kernel
theorem dL_law__907 : decode cL_law_ 907 = .ok (.istore 5, 2) := by decide +kernel
theorem dL_law__909 : decode cL_law_ 909 = .ok (.aload_n 2, 1) := by decide +kernel
theorem dL_law__910 : decode cL_law_ 910 = .ok (.aload_n 0, 1) := by decide +kernel
theorem dL_law__911 : decode cL_law_ 911 = .ok (.iload 4, 2) := by decide +kernel
theorem dL_law__913 : decode cL_law_ 913 = .ok (.iconst 1, 1) := by decide +kernel
theorem dL_law__914 : decode cL_law_ 914 = .ok (.iadd, 1) := by decide +kernel
theorem dL_law__915 : decode cL_law_ 915 = .ok (.iaload, 1) := by decide +kernel
theorem dL_law__916 : decode cL_law_ 916 = .ok (.aload_n 0, 1) := by decide +kernel
theorem dL_law__917 : decode cL_law_ 917 = .ok (.iload 4, 2) := by decide +kernel
theorem dL_law__919 : decode cL_law_ 919 = .ok (.iconst 2, 1) := by decide +kernel
theorem dL_law__920 : decode cL_law_ 920 = .ok (.iadd, 1) := by decide +kernel
theorem dL_law__921 : decode cL_law_ 921 = .ok (.iaload, 1) := by decide +kernel
theorem dL_law__922 : decode cL_law_ 922 = .ok (.aload_n 0, 1) := by decide +kernel
theorem dL_law__923 : decode cL_law_ 923 = .ok (.iload 4, 2) := by decide +kernel
theorem dL_law__925 : decode cL_law_ 925 = .ok (.iconst 3, 1) := by decide +kernel
theorem dL_law__926 : decode cL_law_ 926 = .ok (.iadd, 1) := by decide +kernel
theorem dL_law__927 : decode cL_law_ 927 = .ok (.iaload, 1) := by decide +kernel
theorem dL_law__928 : decode cL_law_ 928 = .ok (.aload_n 0, 1) := by decide +kernel
theorem dL_law__929 : decode cL_law_ 929 = .ok (.iload 4, 2) := by decide +kernel
theorem dL_law__931 : decode cL_law_ 931 = .ok (.iconst 4, 1) := by decide +kernel
theorem dL_law__932 : decode cL_law_ 932 = .ok (.iadd, 1) := by decide +kernel
theorem dL_law__933 : decode cL_law_ 933 = .ok (.iaload, 1) := by decide +kernel
theorem dL_law__934 : decode cL_law_ 934 = .ok (.invokevirtual 183, 3) := by decide +kernel
theorem dL_law__937 : decode cL_law_ 937 = .ok (.istore 6, 2) := by decide +kernel
theorem dL_law__939 : decode cL_law_ 939 = .ok (.aload_n 2, 1) := by decide +kernel
theorem dL_law__940 : decode cL_law_ 940 = .ok (.invokevirtual 149, 3) := by decide +kernel
theorem dL_law__943 : decode cL_law_ 943 = .ok (.iload 5, 2) := by decide +kernel
theorem dL_law__945 : decode cL_law_ 945 = .ok (.if_icmp .eq 5, 3) := by decide +kernel
theorem dL_law__948 : decode cL_law_ 948 = .ok (.iconst 0, 1) := by decide +kernel
theorem dL_law__949 : decode cL_law_ 949 = .ok (.ireturn, 1) := by decide +kernel
theorem dL_law__950 : decode cL_law_ 950 = .ok (.iload 5, 2) := by decide +kernel
theorem dL_law__952 : decode cL_law_ 952 = .ok (.ifCond .ne 15, 3) := by decide +kernel
theorem dL_law__955 : decode cL_law_ 955 = .ok (.aload_n 3, 1) := by decide +kernel
theorem dL_law__956 : decode cL_law_ 956 = .ok (.iconst 0, 1) := by decide +kernel
theorem dL_law__957 : decode cL_law_ 957 = .ok (.laload, 1) := by decide +kernel
theorem dL_law__958 : decode cL_law_ 958 = .ok (.iload 6, 2) := by decide +kernel
theorem dL_law__960 : decode cL_law_ 960 = .ok (.i2l, 1) := by decide +kernel
theorem dL_law__961 : decode cL_law_ 961 = .ok (.lcmp, 1) := by decide +kernel
theorem dL_law__962 : decode cL_law_ 962 = .ok (.ifCond .eq 5, 3) := by decide +kernel
theorem dL_law__965 : decode cL_law_ 965 = .ok (.iconst 0, 1) := by decide +kernel
theorem dL_law__966 : decode cL_law_ 966 = .ok (.ireturn, 1) := by decide +kernel
theorem dL_law__967 : decode cL_law_ 967 = .ok (.goto 2260, 3) := by decide +kernel
theorem dL_law__970 : decode cL_law_ 970 = .ok (.aload_n 1, 1) := by decide +kernel
theorem dL_law__971 : decode cL_law_ 971 = .ok (.aload_n 0, 1) := by decide +kernel
theorem dL_law__972 : decode cL_law_ 972 = .ok (.iload 4, 2) := by decide +kernel
theorem dL_law__974 : decode cL_law_ 974 = .ok (.iconst 1, 1) := by decide +kernel
theorem dL_law__975 : decode cL_law_ 975 = .ok (.iadd, 1) := by decide +kernel
theorem dL_law__976 : decode cL_law_ 976 = .ok (.iaload, 1) := by decide +kernel
theorem dL_law__977 : decode cL_law_ 977 = .ok (.aload_n 0, 1) := by decide +kernel
theorem dL_law__978 : decode cL_law_ 978 = .ok (.iload 4, 2) := by decide +kernel
theorem dL_law__980 : decode cL_law_ 980 = .ok (.iconst 2, 1) := by decide +kernel
theorem dL_law__981 : decode cL_law_ 981 = .ok (.iadd, 1) := by decide +kernel
theorem dL_law__982 : decode cL_law_ 982 = .ok (.iaload, 1) := by decide +kernel
theorem dL_law__983 : decode cL_law_ 983 = .ok (.aload_n 0, 1) := by decide +kernel
theorem dL_law__984 : decode cL_law_ 984 = .ok (.iload 4, 2) := by decide +kernel
theorem dL_law__986 : decode cL_law_ 986 = .ok (.iconst 3, 1) := by decide +kernel
theorem dL_law__987 : decode cL_law_ 987 = .ok (.iadd, 1) := by decide +kernel
theorem dL_law__988 : decode cL_law_ 988 = .ok (.iaload, 1) := by decide +kernel
theorem dL_law__989 : decode cL_law_ 989 = .ok (.aload_n 3, 1) := by decide +kernel
theorem dL_law__990 : decode cL_law_ 990 = .ok (.invokestatic 184, 3) := by decide +kernel
theorem dL_law__993 : decode cL_law_ 993 = .ok (.istore 5, 2) := by decide +kernel
theorem dL_law__995 : decode cL_law_ 995 = .ok (.aload_n 2, 1) := by decide +kernel
theorem dL_law__996 : decode cL_law_ 996 = .ok (.aload_n 0, 1) := by decide +kernel
theorem dL_law__997 : decode cL_law_ 997 = .ok (.iload 4, 2) := by decide +kernel
theorem dL_law__999 : decode cL_law_ 999 = .ok (.iconst 1, 1) := by decide +kernel
theorem dL_law__1000 : decode cL_law_ 1000 = .ok (.iadd, 1) := by decide +kernel
theorem dL_law__1001 : decode cL_law_ 1001 = .ok (.iaload, 1) := by decide +kernel
theorem dL_law__1002 : decode cL_law_ 1002 = .ok (.aload_n 0, 1) := by decide +kernel
theorem dL_law__1003 : decode cL_law_ 1003 = .ok (.iload 4, 2) := by decide +kernel
theorem dL_law__1005 : decode cL_law_ 1005 = .ok (.iconst 2, 1) := by decide +kernel
theorem dL_law__1006 : decode cL_law_ 1006 = .ok (.iadd, 1) := by decide +kernel
theorem dL_law__1007 : decode cL_law_ 1007 = .ok (.iaload, 1) := by decide +kernel
theorem dL_law__1008 : decode cL_law_ 1008 = .ok (.aload_n 0, 1) := by decide +kernel
theorem dL_law__1009 : decode cL_law_ 1009 = .ok (.iload 4, 2) := by decide +kernel
theorem dL_law__1011 : decode cL_law_ 1011 = .ok (.iconst 3, 1) := by decide +kernel
theorem dL_law__1012 : decode cL_law_ 1012 = .ok (.iadd, 1) := by decide +kernel
theorem dL_law__1013 : decode cL_law_ 1013 = .ok (.iaload, 1) := by decide +kernel
theorem dL_law__1014 : decode cL_law_ 1014 = .ok (.invokevirtual 187, 3) := by decide +kernel
theorem dL_law__1017 : decode cL_law_ 1017 = .ok (.istore 6, 2) := by decide +kernel
theorem dL_law__1019 : decode cL_law_ 1019 = .ok (.aload_n 2, 1) := by decide +kernel
theorem dL_law__1020 : decode cL_law_ 1020 = .ok (.invokevirtual 149, 3) := by decide +kernel
theorem dL_law__1023 : decode cL_law_ 1023 = .ok (.iload 5, 2) := by decide +kernel
theorem dL_law__1025 : decode cL_law_ 1025 = .ok (.if_icmp .eq 5, 3) := by decide +kernel
theorem dL_law__1028 : decode cL_law_ 1028 = .ok (.iconst 0, 1) := by decide +kernel
theorem dL_law__1029 : decode cL_law_ 1029 = .ok (.ireturn, 1) := by decide +kernel
theorem dL_law__1030 : decode cL_law_ 1030 = .ok (.iload 5, 2) := by decide +kernel
theorem dL_law__1032 : decode cL_law_ 1032 = .ok (.ifCond .ne 15, 3) := by decide +kernel
theorem dL_law__1035 : decode cL_law_ 1035 = .ok (.aload_n 3, 1) := by decide +kernel
theorem dL_law__1036 : decode cL_law_ 1036 = .ok (.iconst 0, 1) := by decide +kernel
theorem dL_law__1037 : decode cL_law_ 1037 = .ok (.laload, 1) := by decide +kernel
theorem dL_law__1038 : decode cL_law_ 1038 = .ok (.iload 6, 2) := by decide +kernel
theorem dL_law__1040 : decode cL_law_ 1040 = .ok (.i2l, 1) := by decide +kernel
theorem dL_law__1041 : decode cL_law_ 1041 = .ok (.lcmp, 1) := by decide +kernel
theorem dL_law__1042 : decode cL_law_ 1042 = .ok (.ifCond .eq 5, 3) := by decide +kernel
theorem dL_law__1045 : decode cL_law_ 1045 = .ok (.iconst 0, 1) := by decide +kernel
theorem dL_law__1046 : decode cL_law_ 1046 = .ok (.ireturn, 1) := by decide +kernel
theorem dL_law__1047 : decode cL_law_ 1047 = .ok (.goto 2180, 3) := by decide +kernel
theorem dL_law__1050 : decode cL_law_ 1050 = .ok (.aload_n 1, 1) := by decide +kernel
theorem dL_law__1051 : decode cL_law_ 1051 = .ok (.aload_n 0, 1) := by decide +kernel
theorem dL_law__1052 : decode cL_law_ 1052 = .ok (.iload 4, 2) := by decide +kernel
theorem dL_law__1054 : decode cL_law_ 1054 = .ok (.iconst 1, 1) := by decide +kernel
theorem dL_law__1055 : decode cL_law_ 1055 = .ok (.iadd, 1) := by decide +kernel
theorem dL_law__1056 : decode cL_law_ 1056 = .ok (.iaload, 1) := by decide +kernel
theorem dL_law__1057 : decode cL_law_ 1057 = .ok (.aload_n 0, 1) := by decide +kernel
theorem dL_law__1058 : decode cL_law_ 1058 = .ok (.iload 4, 2) := by decide +kernel
theorem dL_law__1060 : decode cL_law_ 1060 = .ok (.iconst 2, 1) := by decide +kernel
theorem dL_law__1061 : decode cL_law_ 1061 = .ok (.iadd, 1) := by decide +kernel
theorem dL_law__1062 : decode cL_law_ 1062 = .ok (.iaload, 1) := by decide +kernel
theorem dL_law__1063 : decode cL_law_ 1063 = .ok (.aload_n 3, 1) := by decide +kernel
theorem dL_law__1064 : decode cL_law_ 1064 = .ok (.invokestatic 188, 3) := by decide +kernel
theorem dL_law__1067 : decode cL_law_ 1067 = .ok (.istore 5, 2) := by decide +kernel
theorem dL_law__1069 : decode cL_law_ 1069 = .ok (.aload_n 2, 1) := by decide +kernel
theorem dL_law__1070 : decode cL_law_ 1070 = .ok (.aload_n 0, 1) := by decide +kernel
theorem dL_law__1071 : decode cL_law_ 1071 = .ok (.iload 4, 2) := by decide +kernel
theorem dL_law__1073 : decode cL_law_ 1073 = .ok (.iconst 1, 1) := by decide +kernel
theorem dL_law__1074 : decode cL_law_ 1074 = .ok (.iadd, 1) := by decide +kernel
theorem dL_law__1075 : decode cL_law_ 1075 = .ok (.iaload, 1) := by decide +kernel
theorem dL_law__1076 : decode cL_law_ 1076 = .ok (.aload_n 0, 1) := by decide +kernel
theorem dL_law__1077 : decode cL_law_ 1077 = .ok (.iload 4, 2) := by decide +kernel
theorem dL_law__1079 : decode cL_law_ 1079 = .ok (.iconst 2, 1) := by decide +kernel
theorem dL_law__1080 : decode cL_law_ 1080 = .ok (.iadd, 1) := by decide +kernel
theorem dL_law__1081 : decode cL_law_ 1081 = .ok (.iaload, 1) := by decide +kernel
theorem dL_law__1082 : decode cL_law_ 1082 = .ok (.invokevirtual 190, 3) := by decide +kernel
theorem dL_law__1085 : decode cL_law_ 1085 = .ok (.istore 6, 2) := by decide +kernel
theorem dL_law__1087 : decode cL_law_ 1087 = .ok (.aload_n 2, 1) := by decide +kernel
theorem dL_law__1088 : decode cL_law_ 1088 = .ok (.invokevirtual 149, 3) := by decide +kernel
theorem dL_law__1091 : decode cL_law_ 1091 = .ok (.iload 5, 2) := by decide +kernel
theorem dL_law__1093 : decode cL_law_ 1093 = .ok (.if_icmp .eq 5, 3) := by decide +kernel
theorem dL_law__1096 : decode cL_law_ 1096 = .ok (.iconst 0, 1) := by decide +kernel
theorem dL_law__1097 : decode cL_law_ 1097 = .ok (.ireturn, 1) := by decide +kernel
theorem dL_law__1098 : decode cL_law_ 1098 = .ok (.iload 5, 2) := by decide +kernel
theorem dL_law__1100 : decode cL_law_ 1100 = .ok (.ifCond .ne 15, 3) := by decide +kernel
theorem dL_law__1103 : decode cL_law_ 1103 = .ok (.aload_n 3, 1) := by decide +kernel
theorem dL_law__1104 : decode cL_law_ 1104 = .ok (.iconst 0, 1) := by decide +kernel
theorem dL_law__1105 : decode cL_law_ 1105 = .ok (.laload, 1) := by decide +kernel
theorem dL_law__1106 : decode cL_law_ 1106 = .ok (.iload 6, 2) := by decide +kernel
theorem dL_law__1108 : decode cL_law_ 1108 = .ok (.i2l, 1) := by decide +kernel
theorem dL_law__1109 : decode cL_law_ 1109 = .ok (.lcmp, 1) := by decide +kernel
theorem dL_law__1110 : decode cL_law_ 1110 = .ok (.ifCond .eq 5, 3) := by decide +kernel
theorem dL_law__1113 : decode cL_law_ 1113 = .ok (.iconst 0, 1) := by decide +kernel
theorem dL_law__1114 : decode cL_law_ 1114 = .ok (.ireturn, 1) := by decide +kernel
theorem dL_law__1115 : decode cL_law_ 1115 = .ok (.goto 2112, 3) := by decide +kernel
theorem dL_law__1118 : decode cL_law_ 1118 = .ok (.aload_n 1, 1) := by decide +kernel
theorem dL_law__1119 : decode cL_law_ 1119 = .ok (.aload_n 0, 1) := by decide +kernel
theorem dL_law__1120 : decode cL_law_ 1120 = .ok (.iload 4, 2) := by decide +kernel
theorem dL_law__1122 : decode cL_law_ 1122 = .ok (.iconst 1, 1) := by decide +kernel
theorem dL_law__1123 : decode cL_law_ 1123 = .ok (.iadd, 1) := by decide +kernel
theorem dL_law__1124 : decode cL_law_ 1124 = .ok (.iaload, 1) := by decide +kernel
theorem dL_law__1125 : decode cL_law_ 1125 = .ok (.aload_n 0, 1) := by decide +kernel
theorem dL_law__1126 : decode cL_law_ 1126 = .ok (.iload 4, 2) := by decide +kernel
theorem dL_law__1128 : decode cL_law_ 1128 = .ok (.iconst 2, 1) := by decide +kernel
theorem dL_law__1129 : decode cL_law_ 1129 = .ok (.iadd, 1) := by decide +kernel
theorem dL_law__1130 : decode cL_law_ 1130 = .ok (.iaload, 1) := by decide +kernel
theorem dL_law__1131 : decode cL_law_ 1131 = .ok (.aload_n 3, 1) := by decide +kernel
theorem dL_law__1132 : decode cL_law_ 1132 = .ok (.invokestatic 191, 3) := by decide +kernel
theorem dL_law__1135 : decode cL_law_ 1135 = .ok (.istore 5, 2) := by decide +kernel
theorem dL_law__1137 : decode cL_law_ 1137 = .ok (.aload_n 2, 1) := by decide +kernel
theorem dL_law__1138 : decode cL_law_ 1138 = .ok (.aload_n 0, 1) := by decide +kernel
theorem dL_law__1139 : decode cL_law_ 1139 = .ok (.iload 4, 2) := by decide +kernel
theorem dL_law__1141 : decode cL_law_ 1141 = .ok (.iconst 1, 1) := by decide +kernel
theorem dL_law__1142 : decode cL_law_ 1142 = .ok (.iadd, 1) := by decide +kernel
theorem dL_law__1143 : decode cL_law_ 1143 = .ok (.iaload, 1) := by decide +kernel
theorem dL_law__1144 : decode cL_law_ 1144 = .ok (.aload_n 0, 1) := by decide +kernel
theorem dL_law__1145 : decode cL_law_ 1145 = .ok (.iload 4, 2) := by decide +kernel
theorem dL_law__1147 : decode cL_law_ 1147 = .ok (.iconst 2, 1) := by decide +kernel
theorem dL_law__1148 : decode cL_law_ 1148 = .ok (.iadd, 1) := by decide +kernel
theorem dL_law__1149 : decode cL_law_ 1149 = .ok (.iaload, 1) := by decide +kernel
theorem dL_law__1150 : decode cL_law_ 1150 = .ok (.invokevirtual 193, 3) := by decide +kernel
theorem dL_law__1153 : decode cL_law_ 1153 = .ok (.istore 6, 2) := by decide +kernel
theorem dL_law__1155 : decode cL_law_ 1155 = .ok (.aload_n 2, 1) := by decide +kernel
theorem dL_law__1156 : decode cL_law_ 1156 = .ok (.invokevirtual 149, 3) := by decide +kernel
theorem dL_law__1159 : decode cL_law_ 1159 = .ok (.iload 5, 2) := by decide +kernel
theorem dL_law__1161 : decode cL_law_ 1161 = .ok (.if_icmp .eq 5, 3) := by decide +kernel
theorem dL_law__1164 : decode cL_law_ 1164 = .ok (.iconst 0, 1) := by decide +kernel
theorem dL_law__1165 : decode cL_law_ 1165 = .ok (.ireturn, 1) := by decide +kernel
theorem dL_law__1166 : decode cL_law_ 1166 = .ok (.iload 5, 2) := by decide +kernel
theorem dL_law__1168 : decode cL_law_ 1168 = .ok (.ifCond .ne 15, 3) := by decide +kernel
theorem dL_law__1171 : decode cL_law_ 1171 = .ok (.aload_n 3, 1) := by decide +kernel
theorem dL_law__1172 : decode cL_law_ 1172 = .ok (.iconst 0, 1) := by decide +kernel
theorem dL_law__1173 : decode cL_law_ 1173 = .ok (.laload, 1) := by decide +kernel
theorem dL_law__1174 : decode cL_law_ 1174 = .ok (.iload 6, 2) := by decide +kernel
theorem dL_law__1176 : decode cL_law_ 1176 = .ok (.i2l, 1) := by decide +kernel
theorem dL_law__1177 : decode cL_law_ 1177 = .ok (.lcmp, 1) := by decide +kernel
theorem dL_law__1178 : decode cL_law_ 1178 = .ok (.ifCond .eq 5, 3) := by decide +kernel
theorem dL_law__1181 : decode cL_law_ 1181 = .ok (.iconst 0, 1) := by decide +kernel
theorem dL_law__1182 : decode cL_law_ 1182 = .ok (.ireturn, 1) := by decide +kernel
theorem dL_law__1183 : decode cL_law_ 1183 = .ok (.goto 2044, 3) := by decide +kernel
theorem dL_law__1186 : decode cL_law_ 1186 = .ok (.aload_n 1, 1) := by decide +kernel
theorem dL_law__1187 : decode cL_law_ 1187 = .ok (.aload_n 0, 1) := by decide +kernel
theorem dL_law__1188 : decode cL_law_ 1188 = .ok (.iload 4, 2) := by decide +kernel
theorem dL_law__1190 : decode cL_law_ 1190 = .ok (.iconst 1, 1) := by decide +kernel
theorem dL_law__1191 : decode cL_law_ 1191 = .ok (.iadd, 1) := by decide +kernel
theorem dL_law__1192 : decode cL_law_ 1192 = .ok (.iaload, 1) := by decide +kernel
theorem dL_law__1193 : decode cL_law_ 1193 = .ok (.aload_n 0, 1) := by decide +kernel
theorem dL_law__1194 : decode cL_law_ 1194 = .ok (.iload 4, 2) := by decide +kernel
theorem dL_law__1196 : decode cL_law_ 1196 = .ok (.iconst 2, 1) := by decide +kernel
theorem dL_law__1197 : decode cL_law_ 1197 = .ok (.iadd, 1) := by decide +kernel
theorem dL_law__1198 : decode cL_law_ 1198 = .ok (.iaload, 1) := by decide +kernel
theorem dL_law__1199 : decode cL_law_ 1199 = .ok (.aload_n 0, 1) := by decide +kernel
theorem dL_law__1200 : decode cL_law_ 1200 = .ok (.iload 4, 2) := by decide +kernel
theorem dL_law__1202 : decode cL_law_ 1202 = .ok (.iconst 3, 1) := by decide +kernel
theorem dL_law__1203 : decode cL_law_ 1203 = .ok (.iadd, 1) := by decide +kernel
theorem dL_law__1204 : decode cL_law_ 1204 = .ok (.iaload, 1) := by decide +kernel
theorem dL_law__1205 : decode cL_law_ 1205 = .ok (.aload_n 0, 1) := by decide +kernel
theorem dL_law__1206 : decode cL_law_ 1206 = .ok (.iload 4, 2) := by decide +kernel
theorem dL_law__1208 : decode cL_law_ 1208 = .ok (.iconst 4, 1) := by decide +kernel
theorem dL_law__1209 : decode cL_law_ 1209 = .ok (.iadd, 1) := by decide +kernel
theorem dL_law__1210 : decode cL_law_ 1210 = .ok (.iaload, 1) := by decide +kernel
theorem dL_law__1211 : decode cL_law_ 1211 = .ok (.aload_n 3, 1) := by decide +kernel
theorem dL_law__1212 : decode cL_law_ 1212 = .ok (.invokestatic 194, 3) := by decide +kernel
theorem dL_law__1215 : decode cL_law_ 1215 = .ok (.istore 5, 2) := by decide +kernel
theorem dL_law__1217 : decode cL_law_ 1217 = .ok (.aload_n 2, 1) := by decide +kernel
theorem dL_law__1218 : decode cL_law_ 1218 = .ok (.aload_n 0, 1) := by decide +kernel
theorem dL_law__1219 : decode cL_law_ 1219 = .ok (.iload 4, 2) := by decide +kernel
theorem dL_law__1221 : decode cL_law_ 1221 = .ok (.iconst 1, 1) := by decide +kernel
theorem dL_law__1222 : decode cL_law_ 1222 = .ok (.iadd, 1) := by decide +kernel
theorem dL_law__1223 : decode cL_law_ 1223 = .ok (.iaload, 1) := by decide +kernel
theorem dL_law__1224 : decode cL_law_ 1224 = .ok (.aload_n 0, 1) := by decide +kernel
theorem dL_law__1225 : decode cL_law_ 1225 = .ok (.iload 4, 2) := by decide +kernel
theorem dL_law__1227 : decode cL_law_ 1227 = .ok (.iconst 2, 1) := by decide +kernel
theorem dL_law__1228 : decode cL_law_ 1228 = .ok (.iadd, 1) := by decide +kernel
theorem dL_law__1229 : decode cL_law_ 1229 = .ok (.iaload, 1) := by decide +kernel
theorem dL_law__1230 : decode cL_law_ 1230 = .ok (.aload_n 0, 1) := by decide +kernel
theorem dL_law__1231 : decode cL_law_ 1231 = .ok (.iload 4, 2) := by decide +kernel
theorem dL_law__1233 : decode cL_law_ 1233 = .ok (.iconst 3, 1) := by decide +kernel
theorem dL_law__1234 : decode cL_law_ 1234 = .ok (.iadd, 1) := by decide +kernel
theorem dL_law__1235 : decode cL_law_ 1235 = .ok (.iaload, 1) := by decide +kernel
theorem dL_law__1236 : decode cL_law_ 1236 = .ok (.aload_n 0, 1) := by decide +kernel
theorem dL_law__1237 : decode cL_law_ 1237 = .ok (.iload 4, 2) := by decide +kernel
theorem dL_law__1239 : decode cL_law_ 1239 = .ok (.iconst 4, 1) := by decide +kernel
theorem dL_law__1240 : decode cL_law_ 1240 = .ok (.iadd, 1) := by decide +kernel
theorem dL_law__1241 : decode cL_law_ 1241 = .ok (.iaload, 1) := by decide +kernel
theorem dL_law__1242 : decode cL_law_ 1242 = .ok (.invokevirtual 196, 3) := by decide +kernel
theorem dL_law__1245 : decode cL_law_ 1245 = .ok (.istore 6, 2) := by decide +kernel
theorem dL_law__1247 : decode cL_law_ 1247 = .ok (.aload_n 2, 1) := by decide +kernel
theorem dL_law__1248 : decode cL_law_ 1248 = .ok (.invokevirtual 149, 3) := by decide +kernel
theorem dL_law__1251 : decode cL_law_ 1251 = .ok (.iload 5, 2) := by decide +kernel
theorem dL_law__1253 : decode cL_law_ 1253 = .ok (.if_icmp .eq 5, 3) := by decide +kernel
theorem dL_law__1256 : decode cL_law_ 1256 = .ok (.iconst 0, 1) := by decide +kernel
theorem dL_law__1257 : decode cL_law_ 1257 = .ok (.ireturn, 1) := by decide +kernel
theorem dL_law__1258 : decode cL_law_ 1258 = .ok (.iload 5, 2) := by decide +kernel
theorem dL_law__1260 : decode cL_law_ 1260 = .ok (.ifCond .ne 15, 3) := by decide +kernel
theorem dL_law__1263 : decode cL_law_ 1263 = .ok (.aload_n 3, 1) := by decide +kernel
theorem dL_law__1264 : decode cL_law_ 1264 = .ok (.iconst 0, 1) := by decide +kernel
theorem dL_law__1265 : decode cL_law_ 1265 = .ok (.laload, 1) := by decide +kernel
theorem dL_law__1266 : decode cL_law_ 1266 = .ok (.iload 6, 2) := by decide +kernel
theorem dL_law__1268 : decode cL_law_ 1268 = .ok (.i2l, 1) := by decide +kernel
theorem dL_law__1269 : decode cL_law_ 1269 = .ok (.lcmp, 1) := by decide +kernel
theorem dL_law__1270 : decode cL_law_ 1270 = .ok (.ifCond .eq 5, 3) := by decide +kernel
theorem dL_law__1273 : decode cL_law_ 1273 = .ok (.iconst 0, 1) := by decide +kernel
theorem dL_law__1274 : decode cL_law_ 1274 = .ok (.ireturn, 1) := by decide +kernel
theorem dL_law__1275 : decode cL_law_ 1275 = .ok (.goto 1952, 3) := by decide +kernel
theorem dL_law__1278 : decode cL_law_ 1278 = .ok (.aload_n 1, 1) := by decide +kernel
theorem dL_law__1279 : decode cL_law_ 1279 = .ok (.aload_n 0, 1) := by decide +kernel
theorem dL_law__1280 : decode cL_law_ 1280 = .ok (.iload 4, 2) := by decide +kernel
theorem dL_law__1282 : decode cL_law_ 1282 = .ok (.iconst 1, 1) := by decide +kernel
theorem dL_law__1283 : decode cL_law_ 1283 = .ok (.iadd, 1) := by decide +kernel
theorem dL_law__1284 : decode cL_law_ 1284 = .ok (.iaload, 1) := by decide +kernel
theorem dL_law__1285 : decode cL_law_ 1285 = .ok (.aload_n 0, 1) := by decide +kernel
theorem dL_law__1286 : decode cL_law_ 1286 = .ok (.iload 4, 2) := by decide +kernel
theorem dL_law__1288 : decode cL_law_ 1288 = .ok (.iconst 2, 1) := by decide +kernel
theorem dL_law__1289 : decode cL_law_ 1289 = .ok (.iadd, 1) := by decide +kernel
theorem dL_law__1290 : decode cL_law_ 1290 = .ok (.iaload, 1) := by decide +kernel
theorem dL_law__1291 : decode cL_law_ 1291 = .ok (.aload_n 0, 1) := by decide +kernel
theorem dL_law__1292 : decode cL_law_ 1292 = .ok (.iload 4, 2) := by decide +kernel
theorem dL_law__1294 : decode cL_law_ 1294 = .ok (.iconst 3, 1) := by decide +kernel
theorem dL_law__1295 : decode cL_law_ 1295 = .ok (.iadd, 1) := by decide +kernel
theorem dL_law__1296 : decode cL_law_ 1296 = .ok (.iaload, 1) := by decide +kernel
theorem dL_law__1297 : decode cL_law_ 1297 = .ok (.aload_n 0, 1) := by decide +kernel
theorem dL_law__1298 : decode cL_law_ 1298 = .ok (.iload 4, 2) := by decide +kernel
theorem dL_law__1300 : decode cL_law_ 1300 = .ok (.iconst 4, 1) := by decide +kernel
theorem dL_law__1301 : decode cL_law_ 1301 = .ok (.iadd, 1) := by decide +kernel
theorem dL_law__1302 : decode cL_law_ 1302 = .ok (.iaload, 1) := by decide +kernel
theorem dL_law__1303 : decode cL_law_ 1303 = .ok (.aload_n 0, 1) := by decide +kernel
theorem dL_law__1304 : decode cL_law_ 1304 = .ok (.iload 4, 2) := by decide +kernel
theorem dL_law__1306 : decode cL_law_ 1306 = .ok (.iconst 5, 1) := by decide +kernel
theorem dL_law__1307 : decode cL_law_ 1307 = .ok (.iadd, 1) := by decide +kernel
theorem dL_law__1308 : decode cL_law_ 1308 = .ok (.iaload, 1) := by decide +kernel
theorem dL_law__1309 : decode cL_law_ 1309 = .ok (.aload_n 3, 1) := by decide +kernel
theorem dL_law__1310 : decode cL_law_ 1310 = .ok (.invokestatic 197, 3) := by decide +kernel
theorem dL_law__1313 : decode cL_law_ 1313 = .ok (.istore 5, 2) := by decide +kernel
theorem dL_law__1315 : decode cL_law_ 1315 = .ok (.aload_n 2, 1) := by decide +kernel
theorem dL_law__1316 : decode cL_law_ 1316 = .ok (.aload_n 0, 1) := by decide +kernel
theorem dL_law__1317 : decode cL_law_ 1317 = .ok (.iload 4, 2) := by decide +kernel
theorem dL_law__1319 : decode cL_law_ 1319 = .ok (.iconst 1, 1) := by decide +kernel
theorem dL_law__1320 : decode cL_law_ 1320 = .ok (.iadd, 1) := by decide +kernel
theorem dL_law__1321 : decode cL_law_ 1321 = .ok (.iaload, 1) := by decide +kernel
theorem dL_law__1322 : decode cL_law_ 1322 = .ok (.aload_n 0, 1) := by decide +kernel
theorem dL_law__1323 : decode cL_law_ 1323 = .ok (.iload 4, 2) := by decide +kernel
theorem dL_law__1325 : decode cL_law_ 1325 = .ok (.iconst 2, 1) := by decide +kernel
theorem dL_law__1326 : decode cL_law_ 1326 = .ok (.iadd, 1) := by decide +kernel
theorem dL_law__1327 : decode cL_law_ 1327 = .ok (.iaload, 1) := by decide +kernel
theorem dL_law__1328 : decode cL_law_ 1328 = .ok (.aload_n 0, 1) := by decide +kernel
theorem dL_law__1329 : decode cL_law_ 1329 = .ok (.iload 4, 2) := by decide +kernel
theorem dL_law__1331 : decode cL_law_ 1331 = .ok (.iconst 3, 1) := by decide +kernel
theorem dL_law__1332 : decode cL_law_ 1332 = .ok (.iadd, 1) := by decide +kernel
theorem dL_law__1333 : decode cL_law_ 1333 = .ok (.iaload, 1) := by decide +kernel
theorem dL_law__1334 : decode cL_law_ 1334 = .ok (.aload_n 0, 1) := by decide +kernel
theorem dL_law__1335 : decode cL_law_ 1335 = .ok (.iload 4, 2) := by decide +kernel
theorem dL_law__1337 : decode cL_law_ 1337 = .ok (.iconst 4, 1) := by decide +kernel
theorem dL_law__1338 : decode cL_law_ 1338 = .ok (.iadd, 1) := by decide +kernel
theorem dL_law__1339 : decode cL_law_ 1339 = .ok (.iaload, 1) := by decide +kernel
theorem dL_law__1340 : decode cL_law_ 1340 = .ok (.aload_n 0, 1) := by decide +kernel
theorem dL_law__1341 : decode cL_law_ 1341 = .ok (.iload 4, 2) := by decide +kernel
theorem dL_law__1343 : decode cL_law_ 1343 = .ok (.iconst 5, 1) := by decide +kernel
theorem dL_law__1344 : decode cL_law_ 1344 = .ok (.iadd, 1) := by decide +kernel
theorem dL_law__1345 : decode cL_law_ 1345 = .ok (.iaload, 1) := by decide +kernel
theorem dL_law__1346 : decode cL_law_ 1346 = .ok (.invokevirtual 200, 3) := by decide +kernel
theorem dL_law__1349 : decode cL_law_ 1349 = .ok (.istore 6, 2) := by decide +kernel
theorem dL_law__1351 : decode cL_law_ 1351 = .ok (.aload_n 2, 1) := by decide +kernel
theorem dL_law__1352 : decode cL_law_ 1352 = .ok (.invokevirtual 149, 3) := by decide +kernel
theorem dL_law__1355 : decode cL_law_ 1355 = .ok (.iload 5, 2) := by decide +kernel
theorem dL_law__1357 : decode cL_law_ 1357 = .ok (.if_icmp .eq 5, 3) := by decide +kernel
theorem dL_law__1360 : decode cL_law_ 1360 = .ok (.iconst 0, 1) := by decide +kernel
theorem dL_law__1361 : decode cL_law_ 1361 = .ok (.ireturn, 1) := by decide +kernel
theorem dL_law__1362 : decode cL_law_ 1362 = .ok (.iload 5, 2) := by decide +kernel
theorem dL_law__1364 : decode cL_law_ 1364 = .ok (.ifCond .ne 15, 3) := by decide +kernel
theorem dL_law__1367 : decode cL_law_ 1367 = .ok (.aload_n 3, 1) := by decide +kernel
theorem dL_law__1368 : decode cL_law_ 1368 = .ok (.iconst 0, 1) := by decide +kernel
theorem dL_law__1369 : decode cL_law_ 1369 = .ok (.laload, 1) := by decide +kernel
theorem dL_law__1370 : decode cL_law_ 1370 = .ok (.iload 6, 2) := by decide +kernel
theorem dL_law__1372 : decode cL_law_ 1372 = .ok (.i2l, 1) := by decide +kernel
theorem dL_law__1373 : decode cL_law_ 1373 = .ok (.lcmp, 1) := by decide +kernel
theorem dL_law__1374 : decode cL_law_ 1374 = .ok (.ifCond .eq 5, 3) := by decide +kernel
theorem dL_law__1377 : decode cL_law_ 1377 = .ok (.iconst 0, 1) := by decide +kernel
theorem dL_law__1378 : decode cL_law_ 1378 = .ok (.ireturn, 1) := by decide +kernel
theorem dL_law__1379 : decode cL_law_ 1379 = .ok (.goto 1848, 3) := by decide +kernel
theorem dL_law__1382 : decode cL_law_ 1382 = .ok (.aload_n 1, 1) := by decide +kernel
theorem dL_law__1383 : decode cL_law_ 1383 = .ok (.aload_n 0, 1) := by decide +kernel
theorem dL_law__1384 : decode cL_law_ 1384 = .ok (.iload 4, 2) := by decide +kernel
theorem dL_law__1386 : decode cL_law_ 1386 = .ok (.iconst 1, 1) := by decide +kernel
theorem dL_law__1387 : decode cL_law_ 1387 = .ok (.iadd, 1) := by decide +kernel
theorem dL_law__1388 : decode cL_law_ 1388 = .ok (.iaload, 1) := by decide +kernel
theorem dL_law__1389 : decode cL_law_ 1389 = .ok (.aload_n 0, 1) := by decide +kernel
theorem dL_law__1390 : decode cL_law_ 1390 = .ok (.iload 4, 2) := by decide +kernel
theorem dL_law__1392 : decode cL_law_ 1392 = .ok (.iconst 2, 1) := by decide +kernel
theorem dL_law__1393 : decode cL_law_ 1393 = .ok (.iadd, 1) := by decide +kernel
theorem dL_law__1394 : decode cL_law_ 1394 = .ok (.iaload, 1) := by decide +kernel
theorem dL_law__1395 : decode cL_law_ 1395 = .ok (.aload_n 0, 1) := by decide +kernel
theorem dL_law__1396 : decode cL_law_ 1396 = .ok (.iload 4, 2) := by decide +kernel
theorem dL_law__1398 : decode cL_law_ 1398 = .ok (.iconst 3, 1) := by decide +kernel
theorem dL_law__1399 : decode cL_law_ 1399 = .ok (.iadd, 1) := by decide +kernel
theorem dL_law__1400 : decode cL_law_ 1400 = .ok (.iaload, 1) := by decide +kernel
theorem dL_law__1401 : decode cL_law_ 1401 = .ok (.aload_n 3, 1) := by decide +kernel
theorem dL_law__1402 : decode cL_law_ 1402 = .ok (.invokestatic 201, 3) := by decide +kernel
theorem dL_law__1405 : decode cL_law_ 1405 = .ok (.istore 5, 2) := by decide +kernel
theorem dL_law__1407 : decode cL_law_ 1407 = .ok (.aload_n 2, 1) := by decide +kernel
theorem dL_law__1408 : decode cL_law_ 1408 = .ok (.aload_n 0, 1) := by decide +kernel
theorem dL_law__1409 : decode cL_law_ 1409 = .ok (.iload 4, 2) := by decide +kernel
theorem dL_law__1411 : decode cL_law_ 1411 = .ok (.iconst 1, 1) := by decide +kernel
theorem dL_law__1412 : decode cL_law_ 1412 = .ok (.iadd, 1) := by decide +kernel
theorem dL_law__1413 : decode cL_law_ 1413 = .ok (.iaload, 1) := by decide +kernel
theorem dL_law__1414 : decode cL_law_ 1414 = .ok (.aload_n 0, 1) := by decide +kernel
theorem dL_law__1415 : decode cL_law_ 1415 = .ok (.iload 4, 2) := by decide +kernel
theorem dL_law__1417 : decode cL_law_ 1417 = .ok (.iconst 2, 1) := by decide +kernel
theorem dL_law__1418 : decode cL_law_ 1418 = .ok (.iadd, 1) := by decide +kernel
theorem dL_law__1419 : decode cL_law_ 1419 = .ok (.iaload, 1) := by decide +kernel
theorem dL_law__1420 : decode cL_law_ 1420 = .ok (.aload_n 0, 1) := by decide +kernel
theorem dL_law__1421 : decode cL_law_ 1421 = .ok (.iload 4, 2) := by decide +kernel
theorem dL_law__1423 : decode cL_law_ 1423 = .ok (.iconst 3, 1) := by decide +kernel
theorem dL_law__1424 : decode cL_law_ 1424 = .ok (.iadd, 1) := by decide +kernel
theorem dL_law__1425 : decode cL_law_ 1425 = .ok (.iaload, 1) := by decide +kernel
theorem dL_law__1426 : decode cL_law_ 1426 = .ok (.invokevirtual 203, 3) := by decide +kernel
theorem dL_law__1429 : decode cL_law_ 1429 = .ok (.istore 6, 2) := by decide +kernel
theorem dL_law__1431 : decode cL_law_ 1431 = .ok (.aload_n 2, 1) := by decide +kernel
theorem dL_law__1432 : decode cL_law_ 1432 = .ok (.invokevirtual 149, 3) := by decide +kernel
theorem dL_law__1435 : decode cL_law_ 1435 = .ok (.iload 5, 2) := by decide +kernel
theorem dL_law__1437 : decode cL_law_ 1437 = .ok (.if_icmp .eq 5, 3) := by decide +kernel
theorem dL_law__1440 : decode cL_law_ 1440 = .ok (.iconst 0, 1) := by decide +kernel
theorem dL_law__1441 : decode cL_law_ 1441 = .ok (.ireturn, 1) := by decide +kernel
theorem dL_law__1442 : decode cL_law_ 1442 = .ok (.iload 5, 2) := by decide +kernel
theorem dL_law__1444 : decode cL_law_ 1444 = .ok (.ifCond .ne 15, 3) := by decide +kernel
theorem dL_law__1447 : decode cL_law_ 1447 = .ok (.aload_n 3, 1) := by decide +kernel
theorem dL_law__1448 : decode cL_law_ 1448 = .ok (.iconst 0, 1) := by decide +kernel
theorem dL_law__1449 : decode cL_law_ 1449 = .ok (.laload, 1) := by decide +kernel
theorem dL_law__1450 : decode cL_law_ 1450 = .ok (.iload 6, 2) := by decide +kernel
theorem dL_law__1452 : decode cL_law_ 1452 = .ok (.i2l, 1) := by decide +kernel
theorem dL_law__1453 : decode cL_law_ 1453 = .ok (.lcmp, 1) := by decide +kernel
theorem dL_law__1454 : decode cL_law_ 1454 = .ok (.ifCond .eq 5, 3) := by decide +kernel
theorem dL_law__1457 : decode cL_law_ 1457 = .ok (.iconst 0, 1) := by decide +kernel
theorem dL_law__1458 : decode cL_law_ 1458 = .ok (.ireturn, 1) := by decide +kernel
theorem dL_law__1459 : decode cL_law_ 1459 = .ok (.goto 1768, 3) := by decide +kernel
theorem dL_law__1462 : decode cL_law_ 1462 = .ok (.aload_n 1, 1) := by decide +kernel
theorem dL_law__1463 : decode cL_law_ 1463 = .ok (.aload_n 0, 1) := by decide +kernel
theorem dL_law__1464 : decode cL_law_ 1464 = .ok (.iload 4, 2) := by decide +kernel
theorem dL_law__1466 : decode cL_law_ 1466 = .ok (.iconst 1, 1) := by decide +kernel
theorem dL_law__1467 : decode cL_law_ 1467 = .ok (.iadd, 1) := by decide +kernel
theorem dL_law__1468 : decode cL_law_ 1468 = .ok (.iaload, 1) := by decide +kernel
theorem dL_law__1469 : decode cL_law_ 1469 = .ok (.aload_n 0, 1) := by decide +kernel
theorem dL_law__1470 : decode cL_law_ 1470 = .ok (.iload 4, 2) := by decide +kernel
theorem dL_law__1472 : decode cL_law_ 1472 = .ok (.iconst 2, 1) := by decide +kernel
theorem dL_law__1473 : decode cL_law_ 1473 = .ok (.iadd, 1) := by decide +kernel
theorem dL_law__1474 : decode cL_law_ 1474 = .ok (.iaload, 1) := by decide +kernel
theorem dL_law__1475 : decode cL_law_ 1475 = .ok (.aload_n 0, 1) := by decide +kernel
theorem dL_law__1476 : decode cL_law_ 1476 = .ok (.iload 4, 2) := by decide +kernel
theorem dL_law__1478 : decode cL_law_ 1478 = .ok (.iconst 3, 1) := by decide +kernel
theorem dL_law__1479 : decode cL_law_ 1479 = .ok (.iadd, 1) := by decide +kernel
theorem dL_law__1480 : decode cL_law_ 1480 = .ok (.iaload, 1) := by decide +kernel
theorem dL_law__1481 : decode cL_law_ 1481 = .ok (.aload_n 3, 1) := by decide +kernel
theorem dL_law__1482 : decode cL_law_ 1482 = .ok (.invokestatic 204, 3) := by decide +kernel
theorem dL_law__1485 : decode cL_law_ 1485 = .ok (.istore 5, 2) := by decide +kernel
theorem dL_law__1487 : decode cL_law_ 1487 = .ok (.aload_n 2, 1) := by decide +kernel
theorem dL_law__1488 : decode cL_law_ 1488 = .ok (.aload_n 0, 1) := by decide +kernel
theorem dL_law__1489 : decode cL_law_ 1489 = .ok (.iload 4, 2) := by decide +kernel
theorem dL_law__1491 : decode cL_law_ 1491 = .ok (.iconst 1, 1) := by decide +kernel
theorem dL_law__1492 : decode cL_law_ 1492 = .ok (.iadd, 1) := by decide +kernel
theorem dL_law__1493 : decode cL_law_ 1493 = .ok (.iaload, 1) := by decide +kernel
theorem dL_law__1494 : decode cL_law_ 1494 = .ok (.aload_n 0, 1) := by decide +kernel
theorem dL_law__1495 : decode cL_law_ 1495 = .ok (.iload 4, 2) := by decide +kernel
theorem dL_law__1497 : decode cL_law_ 1497 = .ok (.iconst 2, 1) := by decide +kernel
theorem dL_law__1498 : decode cL_law_ 1498 = .ok (.iadd, 1) := by decide +kernel
theorem dL_law__1499 : decode cL_law_ 1499 = .ok (.iaload, 1) := by decide +kernel
theorem dL_law__1500 : decode cL_law_ 1500 = .ok (.aload_n 0, 1) := by decide +kernel
theorem dL_law__1501 : decode cL_law_ 1501 = .ok (.iload 4, 2) := by decide +kernel
theorem dL_law__1503 : decode cL_law_ 1503 = .ok (.iconst 3, 1) := by decide +kernel
theorem dL_law__1504 : decode cL_law_ 1504 = .ok (.iadd, 1) := by decide +kernel
theorem dL_law__1505 : decode cL_law_ 1505 = .ok (.iaload, 1) := by decide +kernel
theorem dL_law__1506 : decode cL_law_ 1506 = .ok (.invokevirtual 206, 3) := by decide +kernel
theorem dL_law__1509 : decode cL_law_ 1509 = .ok (.istore 6, 2) := by decide +kernel
theorem dL_law__1511 : decode cL_law_ 1511 = .ok (.aload_n 2, 1) := by decide +kernel
theorem dL_law__1512 : decode cL_law_ 1512 = .ok (.invokevirtual 149, 3) := by decide +kernel
theorem dL_law__1515 : decode cL_law_ 1515 = .ok (.iload 5, 2) := by decide +kernel
theorem dL_law__1517 : decode cL_law_ 1517 = .ok (.if_icmp .eq 5, 3) := by decide +kernel
theorem dL_law__1520 : decode cL_law_ 1520 = .ok (.iconst 0, 1) := by decide +kernel
theorem dL_law__1521 : decode cL_law_ 1521 = .ok (.ireturn, 1) := by decide +kernel
theorem dL_law__1522 : decode cL_law_ 1522 = .ok (.iload 5, 2) := by decide +kernel
theorem dL_law__1524 : decode cL_law_ 1524 = .ok (.ifCond .ne 22, 3) := by decide +kernel
theorem dL_law__1527 : decode cL_law_ 1527 = .ok (.aload_n 3, 1) := by decide +kernel
theorem dL_law__1528 : decode cL_law_ 1528 = .ok (.iconst 0, 1) := by decide +kernel
theorem dL_law__1529 : decode cL_law_ 1529 = .ok (.laload, 1) := by decide +kernel
theorem dL_law__1530 : decode cL_law_ 1530 = .ok (.iload 6, 2) := by decide +kernel
theorem dL_law__1532 : decode cL_law_ 1532 = .ok (.ifCond .eq 7, 3) := by decide +kernel
theorem dL_law__1535 : decode cL_law_ 1535 = .ok (.lconst 1, 1) := by decide +kernel
theorem dL_law__1536 : decode cL_law_ 1536 = .ok (.goto 4, 3) := by decide +kernel
theorem dL_law__1539 : decode cL_law_ 1539 = .ok (.lconst 0, 1) := by decide +kernel
theorem dL_law__1540 : decode cL_law_ 1540 = .ok (.lcmp, 1) := by decide +kernel
theorem dL_law__1541 : decode cL_law_ 1541 = .ok (.ifCond .eq 5, 3) := by decide +kernel
theorem dL_law__1544 : decode cL_law_ 1544 = .ok (.iconst 0, 1) := by decide +kernel
theorem dL_law__1545 : decode cL_law_ 1545 = .ok (.ireturn, 1) := by decide +kernel
theorem dL_law__1546 : decode cL_law_ 1546 = .ok (.goto 1681, 3) := by decide +kernel
theorem dL_law__1549 : decode cL_law_ 1549 = .ok (.aload_n 1, 1) := by decide +kernel
theorem dL_law__1550 : decode cL_law_ 1550 = .ok (.aload_n 0, 1) := by decide +kernel
theorem dL_law__1551 : decode cL_law_ 1551 = .ok (.iload 4, 2) := by decide +kernel
theorem dL_law__1553 : decode cL_law_ 1553 = .ok (.iconst 1, 1) := by decide +kernel
theorem dL_law__1554 : decode cL_law_ 1554 = .ok (.iadd, 1) := by decide +kernel
theorem dL_law__1555 : decode cL_law_ 1555 = .ok (.iaload, 1) := by decide +kernel
theorem dL_law__1556 : decode cL_law_ 1556 = .ok (.aload_n 0, 1) := by decide +kernel
theorem dL_law__1557 : decode cL_law_ 1557 = .ok (.iload 4, 2) := by decide +kernel
theorem dL_law__1559 : decode cL_law_ 1559 = .ok (.iconst 2, 1) := by decide +kernel
theorem dL_law__1560 : decode cL_law_ 1560 = .ok (.iadd, 1) := by decide +kernel
theorem dL_law__1561 : decode cL_law_ 1561 = .ok (.iaload, 1) := by decide +kernel
theorem dL_law__1562 : decode cL_law_ 1562 = .ok (.aload_n 0, 1) := by decide +kernel
theorem dL_law__1563 : decode cL_law_ 1563 = .ok (.iload 4, 2) := by decide +kernel
theorem dL_law__1565 : decode cL_law_ 1565 = .ok (.iconst 3, 1) := by decide +kernel
theorem dL_law__1566 : decode cL_law_ 1566 = .ok (.iadd, 1) := by decide +kernel
theorem dL_law__1567 : decode cL_law_ 1567 = .ok (.iaload, 1) := by decide +kernel
theorem dL_law__1568 : decode cL_law_ 1568 = .ok (.aload_n 3, 1) := by decide +kernel
theorem dL_law__1569 : decode cL_law_ 1569 = .ok (.invokestatic 207, 3) := by decide +kernel
theorem dL_law__1572 : decode cL_law_ 1572 = .ok (.istore 5, 2) := by decide +kernel
theorem dL_law__1574 : decode cL_law_ 1574 = .ok (.aload_n 2, 1) := by decide +kernel
theorem dL_law__1575 : decode cL_law_ 1575 = .ok (.aload_n 0, 1) := by decide +kernel
theorem dL_law__1576 : decode cL_law_ 1576 = .ok (.iload 4, 2) := by decide +kernel
theorem dL_law__1578 : decode cL_law_ 1578 = .ok (.iconst 1, 1) := by decide +kernel
theorem dL_law__1579 : decode cL_law_ 1579 = .ok (.iadd, 1) := by decide +kernel
theorem dL_law__1580 : decode cL_law_ 1580 = .ok (.iaload, 1) := by decide +kernel
theorem dL_law__1581 : decode cL_law_ 1581 = .ok (.aload_n 0, 1) := by decide +kernel
theorem dL_law__1582 : decode cL_law_ 1582 = .ok (.iload 4, 2) := by decide +kernel
theorem dL_law__1584 : decode cL_law_ 1584 = .ok (.iconst 2, 1) := by decide +kernel
theorem dL_law__1585 : decode cL_law_ 1585 = .ok (.iadd, 1) := by decide +kernel
theorem dL_law__1586 : decode cL_law_ 1586 = .ok (.iaload, 1) := by decide +kernel
theorem dL_law__1587 : decode cL_law_ 1587 = .ok (.aload_n 0, 1) := by decide +kernel
theorem dL_law__1588 : decode cL_law_ 1588 = .ok (.iload 4, 2) := by decide +kernel
theorem dL_law__1590 : decode cL_law_ 1590 = .ok (.iconst 3, 1) := by decide +kernel
theorem dL_law__1591 : decode cL_law_ 1591 = .ok (.iadd, 1) := by decide +kernel
theorem dL_law__1592 : decode cL_law_ 1592 = .ok (.iaload, 1) := by decide +kernel
theorem dL_law__1593 : decode cL_law_ 1593 = .ok (.invokevirtual 209, 3) := by decide +kernel
theorem dL_law__1596 : decode cL_law_ 1596 = .ok (.istore 6, 2) := by decide +kernel
theorem dL_law__1598 : decode cL_law_ 1598 = .ok (.aload_n 2, 1) := by decide +kernel
theorem dL_law__1599 : decode cL_law_ 1599 = .ok (.invokevirtual 149, 3) := by decide +kernel
theorem dL_law__1602 : decode cL_law_ 1602 = .ok (.iload 5, 2) := by decide +kernel
theorem dL_law__1604 : decode cL_law_ 1604 = .ok (.if_icmp .eq 5, 3) := by decide +kernel
theorem dL_law__1607 : decode cL_law_ 1607 = .ok (.iconst 0, 1) := by decide +kernel
theorem dL_law__1608 : decode cL_law_ 1608 = .ok (.ireturn, 1) := by decide +kernel
theorem dL_law__1609 : decode cL_law_ 1609 = .ok (.iload 5, 2) := by decide +kernel
theorem dL_law__1611 : decode cL_law_ 1611 = .ok (.ifCond .ne 15, 3) := by decide +kernel
theorem dL_law__1614 : decode cL_law_ 1614 = .ok (.aload_n 3, 1) := by decide +kernel
theorem dL_law__1615 : decode cL_law_ 1615 = .ok (.iconst 0, 1) := by decide +kernel
theorem dL_law__1616 : decode cL_law_ 1616 = .ok (.laload, 1) := by decide +kernel
theorem dL_law__1617 : decode cL_law_ 1617 = .ok (.iload 6, 2) := by decide +kernel
theorem dL_law__1619 : decode cL_law_ 1619 = .ok (.i2l, 1) := by decide +kernel
theorem dL_law__1620 : decode cL_law_ 1620 = .ok (.lcmp, 1) := by decide +kernel
theorem dL_law__1621 : decode cL_law_ 1621 = .ok (.ifCond .eq 5, 3) := by decide +kernel
theorem dL_law__1624 : decode cL_law_ 1624 = .ok (.iconst 0, 1) := by decide +kernel
theorem dL_law__1625 : decode cL_law_ 1625 = .ok (.ireturn, 1) := by decide +kernel
theorem dL_law__1626 : decode cL_law_ 1626 = .ok (.goto 1601, 3) := by decide +kernel
theorem dL_law__1629 : decode cL_law_ 1629 = .ok (.aload_n 1, 1) := by decide +kernel
theorem dL_law__1630 : decode cL_law_ 1630 = .ok (.aload_n 0, 1) := by decide +kernel
theorem dL_law__1631 : decode cL_law_ 1631 = .ok (.iload 4, 2) := by decide +kernel
theorem dL_law__1633 : decode cL_law_ 1633 = .ok (.iconst 1, 1) := by decide +kernel
theorem dL_law__1634 : decode cL_law_ 1634 = .ok (.iadd, 1) := by decide +kernel
theorem dL_law__1635 : decode cL_law_ 1635 = .ok (.iaload, 1) := by decide +kernel
theorem dL_law__1636 : decode cL_law_ 1636 = .ok (.aload_n 0, 1) := by decide +kernel
theorem dL_law__1637 : decode cL_law_ 1637 = .ok (.iload 4, 2) := by decide +kernel
theorem dL_law__1639 : decode cL_law_ 1639 = .ok (.iconst 2, 1) := by decide +kernel
theorem dL_law__1640 : decode cL_law_ 1640 = .ok (.iadd, 1) := by decide +kernel
theorem dL_law__1641 : decode cL_law_ 1641 = .ok (.iaload, 1) := by decide +kernel
theorem dL_law__1642 : decode cL_law_ 1642 = .ok (.aload_n 0, 1) := by decide +kernel
theorem dL_law__1643 : decode cL_law_ 1643 = .ok (.iload 4, 2) := by decide +kernel
theorem dL_law__1645 : decode cL_law_ 1645 = .ok (.iconst 3, 1) := by decide +kernel
theorem dL_law__1646 : decode cL_law_ 1646 = .ok (.iadd, 1) := by decide +kernel
theorem dL_law__1647 : decode cL_law_ 1647 = .ok (.iaload, 1) := by decide +kernel
theorem dL_law__1648 : decode cL_law_ 1648 = .ok (.aload_n 0, 1) := by decide +kernel
theorem dL_law__1649 : decode cL_law_ 1649 = .ok (.iload 4, 2) := by decide +kernel
theorem dL_law__1651 : decode cL_law_ 1651 = .ok (.iconst 4, 1) := by decide +kernel
theorem dL_law__1652 : decode cL_law_ 1652 = .ok (.iadd, 1) := by decide +kernel
theorem dL_law__1653 : decode cL_law_ 1653 = .ok (.iaload, 1) := by decide +kernel
theorem dL_law__1654 : decode cL_law_ 1654 = .ok (.aload_n 3, 1) := by decide +kernel
theorem dL_law__1655 : decode cL_law_ 1655 = .ok (.invokestatic 210, 3) := by decide +kernel
theorem dL_law__1658 : decode cL_law_ 1658 = .ok (.istore 5, 2) := by decide +kernel
theorem dL_law__1660 : decode cL_law_ 1660 = .ok (.aload_n 2, 1) := by decide +kernel
theorem dL_law__1661 : decode cL_law_ 1661 = .ok (.aload_n 0, 1) := by decide +kernel
theorem dL_law__1662 : decode cL_law_ 1662 = .ok (.iload 4, 2) := by decide +kernel
theorem dL_law__1664 : decode cL_law_ 1664 = .ok (.iconst 1, 1) := by decide +kernel
theorem dL_law__1665 : decode cL_law_ 1665 = .ok (.iadd, 1) := by decide +kernel
theorem dL_law__1666 : decode cL_law_ 1666 = .ok (.iaload, 1) := by decide +kernel
theorem dL_law__1667 : decode cL_law_ 1667 = .ok (.aload_n 0, 1) := by decide +kernel
theorem dL_law__1668 : decode cL_law_ 1668 = .ok (.iload 4, 2) := by decide +kernel
theorem dL_law__1670 : decode cL_law_ 1670 = .ok (.iconst 2, 1) := by decide +kernel
theorem dL_law__1671 : decode cL_law_ 1671 = .ok (.iadd, 1) := by decide +kernel
theorem dL_law__1672 : decode cL_law_ 1672 = .ok (.iaload, 1) := by decide +kernel
theorem dL_law__1673 : decode cL_law_ 1673 = .ok (.aload_n 0, 1) := by decide +kernel
theorem dL_law__1674 : decode cL_law_ 1674 = .ok (.iload 4, 2) := by decide +kernel
theorem dL_law__1676 : decode cL_law_ 1676 = .ok (.iconst 3, 1) := by decide +kernel
theorem dL_law__1677 : decode cL_law_ 1677 = .ok (.iadd, 1) := by decide +kernel
theorem dL_law__1678 : decode cL_law_ 1678 = .ok (.iaload, 1) := by decide +kernel
theorem dL_law__1679 : decode cL_law_ 1679 = .ok (.aload_n 0, 1) := by decide +kernel
theorem dL_law__1680 : decode cL_law_ 1680 = .ok (.iload 4, 2) := by decide +kernel
theorem dL_law__1682 : decode cL_law_ 1682 = .ok (.iconst 4, 1) := by decide +kernel
theorem dL_law__1683 : decode cL_law_ 1683 = .ok (.iadd, 1) := by decide +kernel
theorem dL_law__1684 : decode cL_law_ 1684 = .ok (.iaload, 1) := by decide +kernel
theorem dL_law__1685 : decode cL_law_ 1685 = .ok (.invokevirtual 212, 3) := by decide +kernel
theorem dL_law__1688 : decode cL_law_ 1688 = .ok (.istore 6, 2) := by decide +kernel
theorem dL_law__1690 : decode cL_law_ 1690 = .ok (.aload_n 2, 1) := by decide +kernel
theorem dL_law__1691 : decode cL_law_ 1691 = .ok (.invokevirtual 149, 3) := by decide +kernel
theorem dL_law__1694 : decode cL_law_ 1694 = .ok (.iload 5, 2) := by decide +kernel
theorem dL_law__1696 : decode cL_law_ 1696 = .ok (.if_icmp .eq 5, 3) := by decide +kernel
theorem dL_law__1699 : decode cL_law_ 1699 = .ok (.iconst 0, 1) := by decide +kernel
theorem dL_law__1700 : decode cL_law_ 1700 = .ok (.ireturn, 1) := by decide +kernel
theorem dL_law__1701 : decode cL_law_ 1701 = .ok (.iload 5, 2) := by decide +kernel
theorem dL_law__1703 : decode cL_law_ 1703 = .ok (.ifCond .ne 15, 3) := by decide +kernel
theorem dL_law__1706 : decode cL_law_ 1706 = .ok (.aload_n 3, 1) := by decide +kernel
theorem dL_law__1707 : decode cL_law_ 1707 = .ok (.iconst 0, 1) := by decide +kernel
theorem dL_law__1708 : decode cL_law_ 1708 = .ok (.laload, 1) := by decide +kernel
theorem dL_law__1709 : decode cL_law_ 1709 = .ok (.iload 6, 2) := by decide +kernel
theorem dL_law__1711 : decode cL_law_ 1711 = .ok (.i2l, 1) := by decide +kernel
theorem dL_law__1712 : decode cL_law_ 1712 = .ok (.lcmp, 1) := by decide +kernel
theorem dL_law__1713 : decode cL_law_ 1713 = .ok (.ifCond .eq 5, 3) := by decide +kernel
theorem dL_law__1716 : decode cL_law_ 1716 = .ok (.iconst 0, 1) := by decide +kernel
theorem dL_law__1717 : decode cL_law_ 1717 = .ok (.ireturn, 1) := by decide +kernel
theorem dL_law__1718 : decode cL_law_ 1718 = .ok (.goto 1509, 3) := by decide +kernel
theorem dL_law__1721 : decode cL_law_ 1721 = .ok (.aload_n 1, 1) := by decide +kernel
theorem dL_law__1722 : decode cL_law_ 1722 = .ok (.aload_n 0, 1) := by decide +kernel
theorem dL_law__1723 : decode cL_law_ 1723 = .ok (.iload 4, 2) := by decide +kernel
theorem dL_law__1725 : decode cL_law_ 1725 = .ok (.iconst 1, 1) := by decide +kernel
theorem dL_law__1726 : decode cL_law_ 1726 = .ok (.iadd, 1) := by decide +kernel
theorem dL_law__1727 : decode cL_law_ 1727 = .ok (.iaload, 1) := by decide +kernel
theorem dL_law__1728 : decode cL_law_ 1728 = .ok (.aload_n 0, 1) := by decide +kernel
theorem dL_law__1729 : decode cL_law_ 1729 = .ok (.iload 4, 2) := by decide +kernel
theorem dL_law__1731 : decode cL_law_ 1731 = .ok (.iconst 2, 1) := by decide +kernel
theorem dL_law__1732 : decode cL_law_ 1732 = .ok (.iadd, 1) := by decide +kernel
theorem dL_law__1733 : decode cL_law_ 1733 = .ok (.iaload, 1) := by decide +kernel
theorem dL_law__1734 : decode cL_law_ 1734 = .ok (.aload_n 3, 1) := by decide +kernel
theorem dL_law__1735 : decode cL_law_ 1735 = .ok (.invokestatic 213, 3) := by decide +kernel
theorem dL_law__1738 : decode cL_law_ 1738 = .ok (.istore 5, 2) := by decide +kernel
theorem dL_law__1740 : decode cL_law_ 1740 = .ok (.aload_n 2, 1) := by decide +kernel
theorem dL_law__1741 : decode cL_law_ 1741 = .ok (.aload_n 0, 1) := by decide +kernel
theorem dL_law__1742 : decode cL_law_ 1742 = .ok (.iload 4, 2) := by decide +kernel
theorem dL_law__1744 : decode cL_law_ 1744 = .ok (.iconst 1, 1) := by decide +kernel
theorem dL_law__1745 : decode cL_law_ 1745 = .ok (.iadd, 1) := by decide +kernel
theorem dL_law__1746 : decode cL_law_ 1746 = .ok (.iaload, 1) := by decide +kernel
theorem dL_law__1747 : decode cL_law_ 1747 = .ok (.aload_n 0, 1) := by decide +kernel
theorem dL_law__1748 : decode cL_law_ 1748 = .ok (.iload 4, 2) := by decide +kernel
theorem dL_law__1750 : decode cL_law_ 1750 = .ok (.iconst 2, 1) := by decide +kernel
theorem dL_law__1751 : decode cL_law_ 1751 = .ok (.iadd, 1) := by decide +kernel
theorem dL_law__1752 : decode cL_law_ 1752 = .ok (.iaload, 1) := by decide +kernel
theorem dL_law__1753 : decode cL_law_ 1753 = .ok (.invokevirtual 215, 3) := by decide +kernel
theorem dL_law__1756 : decode cL_law_ 1756 = .ok (.istore 6, 2) := by decide +kernel
theorem dL_law__1758 : decode cL_law_ 1758 = .ok (.aload_n 2, 1) := by decide +kernel
theorem dL_law__1759 : decode cL_law_ 1759 = .ok (.invokevirtual 149, 3) := by decide +kernel
theorem dL_law__1762 : decode cL_law_ 1762 = .ok (.iload 5, 2) := by decide +kernel
theorem dL_law__1764 : decode cL_law_ 1764 = .ok (.if_icmp .eq 5, 3) := by decide +kernel
theorem dL_law__1767 : decode cL_law_ 1767 = .ok (.iconst 0, 1) := by decide +kernel
theorem dL_law__1768 : decode cL_law_ 1768 = .ok (.ireturn, 1) := by decide +kernel
theorem dL_law__1769 : decode cL_law_ 1769 = .ok (.iload 5, 2) := by decide +kernel
theorem dL_law__1771 : decode cL_law_ 1771 = .ok (.ifCond .ne 15, 3) := by decide +kernel
theorem dL_law__1774 : decode cL_law_ 1774 = .ok (.aload_n 3, 1) := by decide +kernel
theorem dL_law__1775 : decode cL_law_ 1775 = .ok (.iconst 0, 1) := by decide +kernel
theorem dL_law__1776 : decode cL_law_ 1776 = .ok (.laload, 1) := by decide +kernel
theorem dL_law__1777 : decode cL_law_ 1777 = .ok (.iload 6, 2) := by decide +kernel
theorem dL_law__1779 : decode cL_law_ 1779 = .ok (.i2l, 1) := by decide +kernel
theorem dL_law__1780 : decode cL_law_ 1780 = .ok (.lcmp, 1) := by decide +kernel
theorem dL_law__1781 : decode cL_law_ 1781 = .ok (.ifCond .eq 5, 3) := by decide +kernel
theorem dL_law__1784 : decode cL_law_ 1784 = .ok (.iconst 0, 1) := by decide +kernel
theorem dL_law__1785 : decode cL_law_ 1785 = .ok (.ireturn, 1) := by decide +kernel
theorem dL_law__1786 : decode cL_law_ 1786 = .ok (.goto 1441, 3) := by decide +kernel
theorem dL_law__1789 : decode cL_law_ 1789 = .ok (.aload_n 1, 1) := by decide +kernel
theorem dL_law__1790 : decode cL_law_ 1790 = .ok (.aload_n 0, 1) := by decide +kernel
theorem dL_law__1791 : decode cL_law_ 1791 = .ok (.iload 4, 2) := by decide +kernel
theorem dL_law__1793 : decode cL_law_ 1793 = .ok (.iconst 1, 1) := by decide +kernel
theorem dL_law__1794 : decode cL_law_ 1794 = .ok (.iadd, 1) := by decide +kernel
theorem dL_law__1795 : decode cL_law_ 1795 = .ok (.iaload, 1) := by decide +kernel
theorem dL_law__1796 : decode cL_law_ 1796 = .ok (.aload_n 3, 1) := by decide +kernel
theorem dL_law__1797 : decode cL_law_ 1797 = .ok (.invokestatic 216, 3) := by decide +kernel
theorem dL_law__1800 : decode cL_law_ 1800 = .ok (.istore 5, 2) := by decide +kernel
theorem dL_law__1802 : decode cL_law_ 1802 = .ok (.aload_n 2, 1) := by decide +kernel
theorem dL_law__1803 : decode cL_law_ 1803 = .ok (.aload_n 0, 1) := by decide +kernel
theorem dL_law__1804 : decode cL_law_ 1804 = .ok (.iload 4, 2) := by decide +kernel
theorem dL_law__1806 : decode cL_law_ 1806 = .ok (.iconst 1, 1) := by decide +kernel
theorem dL_law__1807 : decode cL_law_ 1807 = .ok (.iadd, 1) := by decide +kernel
theorem dL_law__1808 : decode cL_law_ 1808 = .ok (.iaload, 1) := by decide +kernel
theorem dL_law__1809 : decode cL_law_ 1809 = .ok (.invokevirtual 218, 3) := by decide +kernel
theorem dL_law__1812 : decode cL_law_ 1812 = .ok (.istore 6, 2) := by decide +kernel
theorem dL_law__1814 : decode cL_law_ 1814 = .ok (.aload_n 2, 1) := by decide +kernel
theorem dL_law__1815 : decode cL_law_ 1815 = .ok (.invokevirtual 149, 3) := by decide +kernel
theorem dL_law__1818 : decode cL_law_ 1818 = .ok (.iload 5, 2) := by decide +kernel
theorem dL_law__1820 : decode cL_law_ 1820 = .ok (.if_icmp .eq 5, 3) := by decide +kernel
theorem dL_law__1823 : decode cL_law_ 1823 = .ok (.iconst 0, 1) := by decide +kernel
theorem dL_law__1824 : decode cL_law_ 1824 = .ok (.ireturn, 1) := by decide +kernel
theorem dL_law__1825 : decode cL_law_ 1825 = .ok (.iload 5, 2) := by decide +kernel
theorem dL_law__1827 : decode cL_law_ 1827 = .ok (.ifCond .ne 15, 3) := by decide +kernel
theorem dL_law__1830 : decode cL_law_ 1830 = .ok (.aload_n 3, 1) := by decide +kernel
theorem dL_law__1831 : decode cL_law_ 1831 = .ok (.iconst 0, 1) := by decide +kernel
theorem dL_law__1832 : decode cL_law_ 1832 = .ok (.laload, 1) := by decide +kernel
theorem dL_law__1833 : decode cL_law_ 1833 = .ok (.iload 6, 2) := by decide +kernel
theorem dL_law__1835 : decode cL_law_ 1835 = .ok (.i2l, 1) := by decide +kernel
theorem dL_law__1836 : decode cL_law_ 1836 = .ok (.lcmp, 1) := by decide +kernel
theorem dL_law__1837 : decode cL_law_ 1837 = .ok (.ifCond .eq 5, 3) := by decide +kernel
theorem dL_law__1840 : decode cL_law_ 1840 = .ok (.iconst 0, 1) := by decide +kernel
theorem dL_law__1841 : decode cL_law_ 1841 = .ok (.ireturn, 1) := by decide +kernel
theorem dL_law__1842 : decode cL_law_ 1842 = .ok (.goto 1385, 3) := by decide +kernel
theorem dL_law__1845 : decode cL_law_ 1845 = .ok (.aload_n 1, 1) := by decide +kernel
theorem dL_law__1846 : decode cL_law_ 1846 = .ok (.aload_n 0, 1) := by decide +kernel
theorem dL_law__1847 : decode cL_law_ 1847 = .ok (.iload 4, 2) := by decide +kernel
theorem dL_law__1849 : decode cL_law_ 1849 = .ok (.iconst 1, 1) := by decide +kernel
theorem dL_law__1850 : decode cL_law_ 1850 = .ok (.iadd, 1) := by decide +kernel
theorem dL_law__1851 : decode cL_law_ 1851 = .ok (.iaload, 1) := by decide +kernel
theorem dL_law__1852 : decode cL_law_ 1852 = .ok (.aload_n 0, 1) := by decide +kernel
theorem dL_law__1853 : decode cL_law_ 1853 = .ok (.iload 4, 2) := by decide +kernel
theorem dL_law__1855 : decode cL_law_ 1855 = .ok (.iconst 2, 1) := by decide +kernel
theorem dL_law__1856 : decode cL_law_ 1856 = .ok (.iadd, 1) := by decide +kernel
theorem dL_law__1857 : decode cL_law_ 1857 = .ok (.iaload, 1) := by decide +kernel
theorem dL_law__1858 : decode cL_law_ 1858 = .ok (.aload_n 0, 1) := by decide +kernel
theorem dL_law__1859 : decode cL_law_ 1859 = .ok (.iload 4, 2) := by decide +kernel
theorem dL_law__1861 : decode cL_law_ 1861 = .ok (.iconst 3, 1) := by decide +kernel
theorem dL_law__1862 : decode cL_law_ 1862 = .ok (.iadd, 1) := by decide +kernel
theorem dL_law__1863 : decode cL_law_ 1863 = .ok (.iaload, 1) := by decide +kernel
theorem dL_law__1864 : decode cL_law_ 1864 = .ok (.aload_n 3, 1) := by decide +kernel
theorem dL_law__1865 : decode cL_law_ 1865 = .ok (.invokestatic 219, 3) := by decide +kernel
theorem dL_law__1868 : decode cL_law_ 1868 = .ok (.istore 5, 2) := by decide +kernel
theorem dL_law__1870 : decode cL_law_ 1870 = .ok (.aload_n 2, 1) := by decide +kernel
theorem dL_law__1871 : decode cL_law_ 1871 = .ok (.aload_n 0, 1) := by decide +kernel
theorem dL_law__1872 : decode cL_law_ 1872 = .ok (.iload 4, 2) := by decide +kernel
theorem dL_law__1874 : decode cL_law_ 1874 = .ok (.iconst 1, 1) := by decide +kernel
theorem dL_law__1875 : decode cL_law_ 1875 = .ok (.iadd, 1) := by decide +kernel
theorem dL_law__1876 : decode cL_law_ 1876 = .ok (.iaload, 1) := by decide +kernel
theorem dL_law__1877 : decode cL_law_ 1877 = .ok (.aload_n 0, 1) := by decide +kernel
theorem dL_law__1878 : decode cL_law_ 1878 = .ok (.iload 4, 2) := by decide +kernel
theorem dL_law__1880 : decode cL_law_ 1880 = .ok (.iconst 2, 1) := by decide +kernel
theorem dL_law__1881 : decode cL_law_ 1881 = .ok (.iadd, 1) := by decide +kernel
theorem dL_law__1882 : decode cL_law_ 1882 = .ok (.iaload, 1) := by decide +kernel
theorem dL_law__1883 : decode cL_law_ 1883 = .ok (.aload_n 0, 1) := by decide +kernel
theorem dL_law__1884 : decode cL_law_ 1884 = .ok (.iload 4, 2) := by decide +kernel
theorem dL_law__1886 : decode cL_law_ 1886 = .ok (.iconst 3, 1) := by decide +kernel
theorem dL_law__1887 : decode cL_law_ 1887 = .ok (.iadd, 1) := by decide +kernel
theorem dL_law__1888 : decode cL_law_ 1888 = .ok (.iaload, 1) := by decide +kernel
theorem dL_law__1889 : decode cL_law_ 1889 = .ok (.invokevirtual 221, 3) := by decide +kernel
theorem dL_law__1892 : decode cL_law_ 1892 = .ok (.istore 6, 2) := by decide +kernel
theorem dL_law__1894 : decode cL_law_ 1894 = .ok (.aload_n 2, 1) := by decide +kernel
theorem dL_law__1895 : decode cL_law_ 1895 = .ok (.invokevirtual 149, 3) := by decide +kernel
theorem dL_law__1898 : decode cL_law_ 1898 = .ok (.iload 5, 2) := by decide +kernel
theorem dL_law__1900 : decode cL_law_ 1900 = .ok (.if_icmp .eq 5, 3) := by decide +kernel
theorem dL_law__1903 : decode cL_law_ 1903 = .ok (.iconst 0, 1) := by decide +kernel
theorem dL_law__1904 : decode cL_law_ 1904 = .ok (.ireturn, 1) := by decide +kernel
theorem dL_law__1905 : decode cL_law_ 1905 = .ok (.iload 5, 2) := by decide +kernel
theorem dL_law__1907 : decode cL_law_ 1907 = .ok (.ifCond .ne 15, 3) := by decide +kernel
theorem dL_law__1910 : decode cL_law_ 1910 = .ok (.aload_n 3, 1) := by decide +kernel
theorem dL_law__1911 : decode cL_law_ 1911 = .ok (.iconst 0, 1) := by decide +kernel
theorem dL_law__1912 : decode cL_law_ 1912 = .ok (.laload, 1) := by decide +kernel
theorem dL_law__1913 : decode cL_law_ 1913 = .ok (.iload 6, 2) := by decide +kernel
theorem dL_law__1915 : decode cL_law_ 1915 = .ok (.i2l, 1) := by decide +kernel
theorem dL_law__1916 : decode cL_law_ 1916 = .ok (.lcmp, 1) := by decide +kernel
theorem dL_law__1917 : decode cL_law_ 1917 = .ok (.ifCond .eq 5, 3) := by decide +kernel
theorem dL_law__1920 : decode cL_law_ 1920 = .ok (.iconst 0, 1) := by decide +kernel
theorem dL_law__1921 : decode cL_law_ 1921 = .ok (.ireturn, 1) := by decide +kernel
theorem dL_law__1922 : decode cL_law_ 1922 = .ok (.goto 1305, 3) := by decide +kernel
theorem dL_law__1925 : decode cL_law_ 1925 = .ok (.aload_n 1, 1) := by decide +kernel
theorem dL_law__1926 : decode cL_law_ 1926 = .ok (.aload_n 0, 1) := by decide +kernel
theorem dL_law__1927 : decode cL_law_ 1927 = .ok (.iload 4, 2) := by decide +kernel
theorem dL_law__1929 : decode cL_law_ 1929 = .ok (.iconst 1, 1) := by decide +kernel
theorem dL_law__1930 : decode cL_law_ 1930 = .ok (.iadd, 1) := by decide +kernel
theorem dL_law__1931 : decode cL_law_ 1931 = .ok (.iaload, 1) := by decide +kernel
theorem dL_law__1932 : decode cL_law_ 1932 = .ok (.aload_n 0, 1) := by decide +kernel
theorem dL_law__1933 : decode cL_law_ 1933 = .ok (.iload 4, 2) := by decide +kernel
theorem dL_law__1935 : decode cL_law_ 1935 = .ok (.iconst 2, 1) := by decide +kernel
theorem dL_law__1936 : decode cL_law_ 1936 = .ok (.iadd, 1) := by decide +kernel
theorem dL_law__1937 : decode cL_law_ 1937 = .ok (.iaload, 1) := by decide +kernel
theorem dL_law__1938 : decode cL_law_ 1938 = .ok (.aload_n 0, 1) := by decide +kernel
theorem dL_law__1939 : decode cL_law_ 1939 = .ok (.iload 4, 2) := by decide +kernel
theorem dL_law__1941 : decode cL_law_ 1941 = .ok (.iconst 3, 1) := by decide +kernel
theorem dL_law__1942 : decode cL_law_ 1942 = .ok (.iadd, 1) := by decide +kernel
theorem dL_law__1943 : decode cL_law_ 1943 = .ok (.iaload, 1) := by decide +kernel
theorem dL_law__1944 : decode cL_law_ 1944 = .ok (.ifCond .eq 7, 3) := by decide +kernel
theorem dL_law__1947 : decode cL_law_ 1947 = .ok (.iconst 1, 1) := by decide +kernel
theorem dL_law__1948 : decode cL_law_ 1948 = .ok (.goto 4, 3) := by decide +kernel
theorem dL_law__1951 : decode cL_law_ 1951 = .ok (.iconst 0, 1) := by decide +kernel
theorem dL_law__1952 : decode cL_law_ 1952 = .ok (.aload_n 3, 1) := by decide +kernel
theorem dL_law__1953 : decode cL_law_ 1953 = .ok (.invokestatic 222, 3) := by decide +kernel
theorem dL_law__1956 : decode cL_law_ 1956 = .ok (.istore 5, 2) := by decide +kernel
theorem dL_law__1958 : decode cL_law_ 1958 = .ok (.aload_n 2, 1) := by decide +kernel
theorem dL_law__1959 : decode cL_law_ 1959 = .ok (.aload_n 0, 1) := by decide +kernel
theorem dL_law__1960 : decode cL_law_ 1960 = .ok (.iload 4, 2) := by decide +kernel
theorem dL_law__1962 : decode cL_law_ 1962 = .ok (.iconst 1, 1) := by decide +kernel
theorem dL_law__1963 : decode cL_law_ 1963 = .ok (.iadd, 1) := by decide +kernel
theorem dL_law__1964 : decode cL_law_ 1964 = .ok (.iaload, 1) := by decide +kernel
theorem dL_law__1965 : decode cL_law_ 1965 = .ok (.aload_n 0, 1) := by decide +kernel
theorem dL_law__1966 : decode cL_law_ 1966 = .ok (.iload 4, 2) := by decide +kernel
theorem dL_law__1968 : decode cL_law_ 1968 = .ok (.iconst 2, 1) := by decide +kernel
theorem dL_law__1969 : decode cL_law_ 1969 = .ok (.iadd, 1) := by decide +kernel
theorem dL_law__1970 : decode cL_law_ 1970 = .ok (.iaload, 1) := by decide +kernel
theorem dL_law__1971 : decode cL_law_ 1971 = .ok (.aload_n 0, 1) := by decide +kernel
theorem dL_law__1972 : decode cL_law_ 1972 = .ok (.iload 4, 2) := by decide +kernel
theorem dL_law__1974 : decode cL_law_ 1974 = .ok (.iconst 3, 1) := by decide +kernel
theorem dL_law__1975 : decode cL_law_ 1975 = .ok (.iadd, 1) := by decide +kernel
theorem dL_law__1976 : decode cL_law_ 1976 = .ok (.iaload, 1) := by decide +kernel
theorem dL_law__1977 : decode cL_law_ 1977 = .ok (.ifCond .eq 7, 3) := by decide +kernel
theorem dL_law__1980 : decode cL_law_ 1980 = .ok (.iconst 1, 1) := by decide +kernel
theorem dL_law__1981 : decode cL_law_ 1981 = .ok (.goto 4, 3) := by decide +kernel
theorem dL_law__1984 : decode cL_law_ 1984 = .ok (.iconst 0, 1) := by decide +kernel
theorem dL_law__1985 : decode cL_law_ 1985 = .ok (.invokevirtual 224, 3) := by decide +kernel
theorem dL_law__1988 : decode cL_law_ 1988 = .ok (.istore 6, 2) := by decide +kernel
theorem dL_law__1990 : decode cL_law_ 1990 = .ok (.aload_n 2, 1) := by decide +kernel
theorem dL_law__1991 : decode cL_law_ 1991 = .ok (.invokevirtual 149, 3) := by decide +kernel
theorem dL_law__1994 : decode cL_law_ 1994 = .ok (.iload 5, 2) := by decide +kernel
theorem dL_law__1996 : decode cL_law_ 1996 = .ok (.if_icmp .eq 5, 3) := by decide +kernel
theorem dL_law__1999 : decode cL_law_ 1999 = .ok (.iconst 0, 1) := by decide +kernel
theorem dL_law__2000 : decode cL_law_ 2000 = .ok (.ireturn, 1) := by decide +kernel
theorem dL_law__2001 : decode cL_law_ 2001 = .ok (.iload 5, 2) := by decide +kernel
theorem dL_law__2003 : decode cL_law_ 2003 = .ok (.ifCond .ne 15, 3) := by decide +kernel
theorem dL_law__2006 : decode cL_law_ 2006 = .ok (.aload_n 3, 1) := by decide +kernel
theorem dL_law__2007 : decode cL_law_ 2007 = .ok (.iconst 0, 1) := by decide +kernel
theorem dL_law__2008 : decode cL_law_ 2008 = .ok (.laload, 1) := by decide +kernel
theorem dL_law__2009 : decode cL_law_ 2009 = .ok (.iload 6, 2) := by decide +kernel
theorem dL_law__2011 : decode cL_law_ 2011 = .ok (.i2l, 1) := by decide +kernel
theorem dL_law__2012 : decode cL_law_ 2012 = .ok (.lcmp, 1) := by decide +kernel
theorem dL_law__2013 : decode cL_law_ 2013 = .ok (.ifCond .eq 5, 3) := by decide +kernel
theorem dL_law__2016 : decode cL_law_ 2016 = .ok (.iconst 0, 1) := by decide +kernel
theorem dL_law__2017 : decode cL_law_ 2017 = .ok (.ireturn, 1) := by decide +kernel
theorem dL_law__2018 : decode cL_law_ 2018 = .ok (.goto 1209, 3) := by decide +kernel
theorem dL_law__2021 : decode cL_law_ 2021 = .ok (.aload_n 1, 1) := by decide +kernel
theorem dL_law__2022 : decode cL_law_ 2022 = .ok (.aload_n 0, 1) := by decide +kernel
theorem dL_law__2023 : decode cL_law_ 2023 = .ok (.iload 4, 2) := by decide +kernel
theorem dL_law__2025 : decode cL_law_ 2025 = .ok (.iconst 1, 1) := by decide +kernel
theorem dL_law__2026 : decode cL_law_ 2026 = .ok (.iadd, 1) := by decide +kernel
theorem dL_law__2027 : decode cL_law_ 2027 = .ok (.iaload, 1) := by decide +kernel
theorem dL_law__2028 : decode cL_law_ 2028 = .ok (.aload_n 0, 1) := by decide +kernel
theorem dL_law__2029 : decode cL_law_ 2029 = .ok (.iload 4, 2) := by decide +kernel
theorem dL_law__2031 : decode cL_law_ 2031 = .ok (.iconst 2, 1) := by decide +kernel
theorem dL_law__2032 : decode cL_law_ 2032 = .ok (.iadd, 1) := by decide +kernel
theorem dL_law__2033 : decode cL_law_ 2033 = .ok (.iaload, 1) := by decide +kernel
theorem dL_law__2034 : decode cL_law_ 2034 = .ok (.aload_n 3, 1) := by decide +kernel
theorem dL_law__2035 : decode cL_law_ 2035 = .ok (.invokestatic 225, 3) := by decide +kernel
theorem dL_law__2038 : decode cL_law_ 2038 = .ok (.istore 5, 2) := by decide +kernel
theorem dL_law__2040 : decode cL_law_ 2040 = .ok (.aload_n 2, 1) := by decide +kernel
theorem dL_law__2041 : decode cL_law_ 2041 = .ok (.aload_n 0, 1) := by decide +kernel
theorem dL_law__2042 : decode cL_law_ 2042 = .ok (.iload 4, 2) := by decide +kernel
theorem dL_law__2044 : decode cL_law_ 2044 = .ok (.iconst 1, 1) := by decide +kernel
theorem dL_law__2045 : decode cL_law_ 2045 = .ok (.iadd, 1) := by decide +kernel
theorem dL_law__2046 : decode cL_law_ 2046 = .ok (.iaload, 1) := by decide +kernel
theorem dL_law__2047 : decode cL_law_ 2047 = .ok (.aload_n 0, 1) := by decide +kernel
theorem dL_law__2048 : decode cL_law_ 2048 = .ok (.iload 4, 2) := by decide +kernel
theorem dL_law__2050 : decode cL_law_ 2050 = .ok (.iconst 2, 1) := by decide +kernel
theorem dL_law__2051 : decode cL_law_ 2051 = .ok (.iadd, 1) := by decide +kernel
theorem dL_law__2052 : decode cL_law_ 2052 = .ok (.iaload, 1) := by decide +kernel
theorem dL_law__2053 : decode cL_law_ 2053 = .ok (.invokevirtual 227, 3) := by decide +kernel
theorem dL_law__2056 : decode cL_law_ 2056 = .ok (.istore 6, 2) := by decide +kernel
theorem dL_law__2058 : decode cL_law_ 2058 = .ok (.aload_n 2, 1) := by decide +kernel
theorem dL_law__2059 : decode cL_law_ 2059 = .ok (.invokevirtual 149, 3) := by decide +kernel
theorem dL_law__2062 : decode cL_law_ 2062 = .ok (.iload 5, 2) := by decide +kernel
theorem dL_law__2064 : decode cL_law_ 2064 = .ok (.if_icmp .eq 5, 3) := by decide +kernel
theorem dL_law__2067 : decode cL_law_ 2067 = .ok (.iconst 0, 1) := by decide +kernel
theorem dL_law__2068 : decode cL_law_ 2068 = .ok (.ireturn, 1) := by decide +kernel
theorem dL_law__2069 : decode cL_law_ 2069 = .ok (.iload 5, 2) := by decide +kernel
theorem dL_law__2071 : decode cL_law_ 2071 = .ok (.ifCond .ne 15, 3) := by decide +kernel
theorem dL_law__2074 : decode cL_law_ 2074 = .ok (.aload_n 3, 1) := by decide +kernel
theorem dL_law__2075 : decode cL_law_ 2075 = .ok (.iconst 0, 1) := by decide +kernel
theorem dL_law__2076 : decode cL_law_ 2076 = .ok (.laload, 1) := by decide +kernel
theorem dL_law__2077 : decode cL_law_ 2077 = .ok (.iload 6, 2) := by decide +kernel
theorem dL_law__2079 : decode cL_law_ 2079 = .ok (.i2l, 1) := by decide +kernel
theorem dL_law__2080 : decode cL_law_ 2080 = .ok (.lcmp, 1) := by decide +kernel
theorem dL_law__2081 : decode cL_law_ 2081 = .ok (.ifCond .eq 5, 3) := by decide +kernel
theorem dL_law__2084 : decode cL_law_ 2084 = .ok (.iconst 0, 1) := by decide +kernel
theorem dL_law__2085 : decode cL_law_ 2085 = .ok (.ireturn, 1) := by decide +kernel
theorem dL_law__2086 : decode cL_law_ 2086 = .ok (.goto 1141, 3) := by decide +kernel
theorem dL_law__2089 : decode cL_law_ 2089 = .ok (.aload_n 1, 1) := by decide +kernel
theorem dL_law__2090 : decode cL_law_ 2090 = .ok (.aload_n 0, 1) := by decide +kernel
theorem dL_law__2091 : decode cL_law_ 2091 = .ok (.iload 4, 2) := by decide +kernel
theorem dL_law__2093 : decode cL_law_ 2093 = .ok (.iconst 1, 1) := by decide +kernel
theorem dL_law__2094 : decode cL_law_ 2094 = .ok (.iadd, 1) := by decide +kernel
theorem dL_law__2095 : decode cL_law_ 2095 = .ok (.iaload, 1) := by decide +kernel
theorem dL_law__2096 : decode cL_law_ 2096 = .ok (.aload_n 0, 1) := by decide +kernel
theorem dL_law__2097 : decode cL_law_ 2097 = .ok (.iload 4, 2) := by decide +kernel
theorem dL_law__2099 : decode cL_law_ 2099 = .ok (.iconst 2, 1) := by decide +kernel
theorem dL_law__2100 : decode cL_law_ 2100 = .ok (.iadd, 1) := by decide +kernel
theorem dL_law__2101 : decode cL_law_ 2101 = .ok (.iaload, 1) := by decide +kernel
theorem dL_law__2102 : decode cL_law_ 2102 = .ok (.aload_n 3, 1) := by decide +kernel
theorem dL_law__2103 : decode cL_law_ 2103 = .ok (.invokestatic 228, 3) := by decide +kernel
theorem dL_law__2106 : decode cL_law_ 2106 = .ok (.istore 5, 2) := by decide +kernel
theorem dL_law__2108 : decode cL_law_ 2108 = .ok (.aload_n 2, 1) := by decide +kernel
theorem dL_law__2109 : decode cL_law_ 2109 = .ok (.aload_n 0, 1) := by decide +kernel
theorem dL_law__2110 : decode cL_law_ 2110 = .ok (.iload 4, 2) := by decide +kernel
theorem dL_law__2112 : decode cL_law_ 2112 = .ok (.iconst 1, 1) := by decide +kernel
theorem dL_law__2113 : decode cL_law_ 2113 = .ok (.iadd, 1) := by decide +kernel
theorem dL_law__2114 : decode cL_law_ 2114 = .ok (.iaload, 1) := by decide +kernel
theorem dL_law__2115 : decode cL_law_ 2115 = .ok (.aload_n 0, 1) := by decide +kernel
theorem dL_law__2116 : decode cL_law_ 2116 = .ok (.iload 4, 2) := by decide +kernel
theorem dL_law__2118 : decode cL_law_ 2118 = .ok (.iconst 2, 1) := by decide +kernel
theorem dL_law__2119 : decode cL_law_ 2119 = .ok (.iadd, 1) := by decide +kernel
theorem dL_law__2120 : decode cL_law_ 2120 = .ok (.iaload, 1) := by decide +kernel
theorem dL_law__2121 : decode cL_law_ 2121 = .ok (.invokevirtual 230, 3) := by decide +kernel
theorem dL_law__2124 : decode cL_law_ 2124 = .ok (.istore 6, 2) := by decide +kernel
theorem dL_law__2126 : decode cL_law_ 2126 = .ok (.aload_n 2, 1) := by decide +kernel
theorem dL_law__2127 : decode cL_law_ 2127 = .ok (.invokevirtual 149, 3) := by decide +kernel
theorem dL_law__2130 : decode cL_law_ 2130 = .ok (.iload 5, 2) := by decide +kernel
theorem dL_law__2132 : decode cL_law_ 2132 = .ok (.if_icmp .eq 5, 3) := by decide +kernel
theorem dL_law__2135 : decode cL_law_ 2135 = .ok (.iconst 0, 1) := by decide +kernel
theorem dL_law__2136 : decode cL_law_ 2136 = .ok (.ireturn, 1) := by decide +kernel
theorem dL_law__2137 : decode cL_law_ 2137 = .ok (.iload 5, 2) := by decide +kernel
theorem dL_law__2139 : decode cL_law_ 2139 = .ok (.ifCond .ne 15, 3) := by decide +kernel
theorem dL_law__2142 : decode cL_law_ 2142 = .ok (.aload_n 3, 1) := by decide +kernel
theorem dL_law__2143 : decode cL_law_ 2143 = .ok (.iconst 0, 1) := by decide +kernel
theorem dL_law__2144 : decode cL_law_ 2144 = .ok (.laload, 1) := by decide +kernel
theorem dL_law__2145 : decode cL_law_ 2145 = .ok (.iload 6, 2) := by decide +kernel
theorem dL_law__2147 : decode cL_law_ 2147 = .ok (.i2l, 1) := by decide +kernel
theorem dL_law__2148 : decode cL_law_ 2148 = .ok (.lcmp, 1) := by decide +kernel
theorem dL_law__2149 : decode cL_law_ 2149 = .ok (.ifCond .eq 5, 3) := by decide +kernel
theorem dL_law__2152 : decode cL_law_ 2152 = .ok (.iconst 0, 1) := by decide +kernel
theorem dL_law__2153 : decode cL_law_ 2153 = .ok (.ireturn, 1) := by decide +kernel
theorem dL_law__2154 : decode cL_law_ 2154 = .ok (.goto 1073, 3) := by decide +kernel
theorem dL_law__2157 : decode cL_law_ 2157 = .ok (.aload_n 1, 1) := by decide +kernel
theorem dL_law__2158 : decode cL_law_ 2158 = .ok (.aload_n 0, 1) := by decide +kernel
theorem dL_law__2159 : decode cL_law_ 2159 = .ok (.iload 4, 2) := by decide +kernel
theorem dL_law__2161 : decode cL_law_ 2161 = .ok (.iconst 1, 1) := by decide +kernel
theorem dL_law__2162 : decode cL_law_ 2162 = .ok (.iadd, 1) := by decide +kernel
theorem dL_law__2163 : decode cL_law_ 2163 = .ok (.iaload, 1) := by decide +kernel
theorem dL_law__2164 : decode cL_law_ 2164 = .ok (.aload_n 0, 1) := by decide +kernel
theorem dL_law__2165 : decode cL_law_ 2165 = .ok (.iload 4, 2) := by decide +kernel
theorem dL_law__2167 : decode cL_law_ 2167 = .ok (.iconst 2, 1) := by decide +kernel
theorem dL_law__2168 : decode cL_law_ 2168 = .ok (.iadd, 1) := by decide +kernel
theorem dL_law__2169 : decode cL_law_ 2169 = .ok (.iaload, 1) := by decide +kernel
theorem dL_law__2170 : decode cL_law_ 2170 = .ok (.aload_n 0, 1) := by decide +kernel
theorem dL_law__2171 : decode cL_law_ 2171 = .ok (.iload 4, 2) := by decide +kernel
theorem dL_law__2173 : decode cL_law_ 2173 = .ok (.iconst 3, 1) := by decide +kernel
theorem dL_law__2174 : decode cL_law_ 2174 = .ok (.iadd, 1) := by decide +kernel
theorem dL_law__2175 : decode cL_law_ 2175 = .ok (.iaload, 1) := by decide +kernel
theorem dL_law__2176 : decode cL_law_ 2176 = .ok (.aload_n 0, 1) := by decide +kernel
theorem dL_law__2177 : decode cL_law_ 2177 = .ok (.iload 4, 2) := by decide +kernel
theorem dL_law__2179 : decode cL_law_ 2179 = .ok (.iconst 4, 1) := by decide +kernel
theorem dL_law__2180 : decode cL_law_ 2180 = .ok (.iadd, 1) := by decide +kernel
theorem dL_law__2181 : decode cL_law_ 2181 = .ok (.iaload, 1) := by decide +kernel
theorem dL_law__2182 : decode cL_law_ 2182 = .ok (.aload_n 3, 1) := by decide +kernel
theorem dL_law__2183 : decode cL_law_ 2183 = .ok (.invokestatic 231, 3) := by decide +kernel
theorem dL_law__2186 : decode cL_law_ 2186 = .ok (.istore 5, 2) := by decide +kernel
theorem dL_law__2188 : decode cL_law_ 2188 = .ok (.aload_n 2, 1) := by decide +kernel
theorem dL_law__2189 : decode cL_law_ 2189 = .ok (.aload_n 0, 1) := by decide +kernel
theorem dL_law__2190 : decode cL_law_ 2190 = .ok (.iload 4, 2) := by decide +kernel
theorem dL_law__2192 : decode cL_law_ 2192 = .ok (.iconst 1, 1) := by decide +kernel
theorem dL_law__2193 : decode cL_law_ 2193 = .ok (.iadd, 1) := by decide +kernel
theorem dL_law__2194 : decode cL_law_ 2194 = .ok (.iaload, 1) := by decide +kernel
theorem dL_law__2195 : decode cL_law_ 2195 = .ok (.aload_n 0, 1) := by decide +kernel
theorem dL_law__2196 : decode cL_law_ 2196 = .ok (.iload 4, 2) := by decide +kernel
theorem dL_law__2198 : decode cL_law_ 2198 = .ok (.iconst 2, 1) := by decide +kernel
theorem dL_law__2199 : decode cL_law_ 2199 = .ok (.iadd, 1) := by decide +kernel
theorem dL_law__2200 : decode cL_law_ 2200 = .ok (.iaload, 1) := by decide +kernel
theorem dL_law__2201 : decode cL_law_ 2201 = .ok (.aload_n 0, 1) := by decide +kernel
theorem dL_law__2202 : decode cL_law_ 2202 = .ok (.iload 4, 2) := by decide +kernel
theorem dL_law__2204 : decode cL_law_ 2204 = .ok (.iconst 3, 1) := by decide +kernel
theorem dL_law__2205 : decode cL_law_ 2205 = .ok (.iadd, 1) := by decide +kernel
theorem dL_law__2206 : decode cL_law_ 2206 = .ok (.iaload, 1) := by decide +kernel
theorem dL_law__2207 : decode cL_law_ 2207 = .ok (.aload_n 0, 1) := by decide +kernel
theorem dL_law__2208 : decode cL_law_ 2208 = .ok (.iload 4, 2) := by decide +kernel
theorem dL_law__2210 : decode cL_law_ 2210 = .ok (.iconst 4, 1) := by decide +kernel
theorem dL_law__2211 : decode cL_law_ 2211 = .ok (.iadd, 1) := by decide +kernel
theorem dL_law__2212 : decode cL_law_ 2212 = .ok (.iaload, 1) := by decide +kernel
theorem dL_law__2213 : decode cL_law_ 2213 = .ok (.invokevirtual 233, 3) := by decide +kernel
theorem dL_law__2216 : decode cL_law_ 2216 = .ok (.istore 6, 2) := by decide +kernel
theorem dL_law__2218 : decode cL_law_ 2218 = .ok (.aload_n 2, 1) := by decide +kernel
theorem dL_law__2219 : decode cL_law_ 2219 = .ok (.invokevirtual 149, 3) := by decide +kernel
theorem dL_law__2222 : decode cL_law_ 2222 = .ok (.iload 5, 2) := by decide +kernel
theorem dL_law__2224 : decode cL_law_ 2224 = .ok (.if_icmp .eq 5, 3) := by decide +kernel
theorem dL_law__2227 : decode cL_law_ 2227 = .ok (.iconst 0, 1) := by decide +kernel
theorem dL_law__2228 : decode cL_law_ 2228 = .ok (.ireturn, 1) := by decide +kernel
theorem dL_law__2229 : decode cL_law_ 2229 = .ok (.iload 5, 2) := by decide +kernel
theorem dL_law__2231 : decode cL_law_ 2231 = .ok (.ifCond .ne 15, 3) := by decide +kernel
theorem dL_law__2234 : decode cL_law_ 2234 = .ok (.aload_n 3, 1) := by decide +kernel
theorem dL_law__2235 : decode cL_law_ 2235 = .ok (.iconst 0, 1) := by decide +kernel
theorem dL_law__2236 : decode cL_law_ 2236 = .ok (.laload, 1) := by decide +kernel
theorem dL_law__2237 : decode cL_law_ 2237 = .ok (.iload 6, 2) := by decide +kernel
theorem dL_law__2239 : decode cL_law_ 2239 = .ok (.i2l, 1) := by decide +kernel
theorem dL_law__2240 : decode cL_law_ 2240 = .ok (.lcmp, 1) := by decide +kernel
theorem dL_law__2241 : decode cL_law_ 2241 = .ok (.ifCond .eq 5, 3) := by decide +kernel
theorem dL_law__2244 : decode cL_law_ 2244 = .ok (.iconst 0, 1) := by decide +kernel
theorem dL_law__2245 : decode cL_law_ 2245 = .ok (.ireturn, 1) := by decide +kernel
theorem dL_law__2246 : decode cL_law_ 2246 = .ok (.goto 981, 3) := by decide +kernel
theorem dL_law__2249 : decode cL_law_ 2249 = .ok (.aload_n 1, 1) := by decide +kernel
theorem dL_law__2250 : decode cL_law_ 2250 = .ok (.aload_n 0, 1) := by decide +kernel
theorem dL_law__2251 : decode cL_law_ 2251 = .ok (.iload 4, 2) := by decide +kernel
theorem dL_law__2253 : decode cL_law_ 2253 = .ok (.iconst 1, 1) := by decide +kernel
theorem dL_law__2254 : decode cL_law_ 2254 = .ok (.iadd, 1) := by decide +kernel
theorem dL_law__2255 : decode cL_law_ 2255 = .ok (.iaload, 1) := by decide +kernel
theorem dL_law__2256 : decode cL_law_ 2256 = .ok (.aload_n 0, 1) := by decide +kernel
theorem dL_law__2257 : decode cL_law_ 2257 = .ok (.iload 4, 2) := by decide +kernel
theorem dL_law__2259 : decode cL_law_ 2259 = .ok (.iconst 2, 1) := by decide +kernel
theorem dL_law__2260 : decode cL_law_ 2260 = .ok (.iadd, 1) := by decide +kernel
theorem dL_law__2261 : decode cL_law_ 2261 = .ok (.iaload, 1) := by decide +kernel
theorem dL_law__2262 : decode cL_law_ 2262 = .ok (.aload_n 0, 1) := by decide +kernel
theorem dL_law__2263 : decode cL_law_ 2263 = .ok (.iload 4, 2) := by decide +kernel
theorem dL_law__2265 : decode cL_law_ 2265 = .ok (.iconst 3, 1) := by decide +kernel
theorem dL_law__2266 : decode cL_law_ 2266 = .ok (.iadd, 1) := by decide +kernel
theorem dL_law__2267 : decode cL_law_ 2267 = .ok (.iaload, 1) := by decide +kernel
theorem dL_law__2268 : decode cL_law_ 2268 = .ok (.aload_n 0, 1) := by decide +kernel
theorem dL_law__2269 : decode cL_law_ 2269 = .ok (.iload 4, 2) := by decide +kernel
theorem dL_law__2271 : decode cL_law_ 2271 = .ok (.iconst 4, 1) := by decide +kernel
theorem dL_law__2272 : decode cL_law_ 2272 = .ok (.iadd, 1) := by decide +kernel
theorem dL_law__2273 : decode cL_law_ 2273 = .ok (.iaload, 1) := by decide +kernel
theorem dL_law__2274 : decode cL_law_ 2274 = .ok (.aload_n 3, 1) := by decide +kernel
theorem dL_law__2275 : decode cL_law_ 2275 = .ok (.invokestatic 234, 3) := by decide +kernel
theorem dL_law__2278 : decode cL_law_ 2278 = .ok (.istore 5, 2) := by decide +kernel
theorem dL_law__2280 : decode cL_law_ 2280 = .ok (.aload_n 2, 1) := by decide +kernel
theorem dL_law__2281 : decode cL_law_ 2281 = .ok (.aload_n 0, 1) := by decide +kernel
theorem dL_law__2282 : decode cL_law_ 2282 = .ok (.iload 4, 2) := by decide +kernel
theorem dL_law__2284 : decode cL_law_ 2284 = .ok (.iconst 1, 1) := by decide +kernel
theorem dL_law__2285 : decode cL_law_ 2285 = .ok (.iadd, 1) := by decide +kernel
theorem dL_law__2286 : decode cL_law_ 2286 = .ok (.iaload, 1) := by decide +kernel
theorem dL_law__2287 : decode cL_law_ 2287 = .ok (.aload_n 0, 1) := by decide +kernel
theorem dL_law__2288 : decode cL_law_ 2288 = .ok (.iload 4, 2) := by decide +kernel
theorem dL_law__2290 : decode cL_law_ 2290 = .ok (.iconst 2, 1) := by decide +kernel
theorem dL_law__2291 : decode cL_law_ 2291 = .ok (.iadd, 1) := by decide +kernel
theorem dL_law__2292 : decode cL_law_ 2292 = .ok (.iaload, 1) := by decide +kernel
theorem dL_law__2293 : decode cL_law_ 2293 = .ok (.aload_n 0, 1) := by decide +kernel
theorem dL_law__2294 : decode cL_law_ 2294 = .ok (.iload 4, 2) := by decide +kernel
theorem dL_law__2296 : decode cL_law_ 2296 = .ok (.iconst 3, 1) := by decide +kernel
theorem dL_law__2297 : decode cL_law_ 2297 = .ok (.iadd, 1) := by decide +kernel
theorem dL_law__2298 : decode cL_law_ 2298 = .ok (.iaload, 1) := by decide +kernel
theorem dL_law__2299 : decode cL_law_ 2299 = .ok (.aload_n 0, 1) := by decide +kernel
theorem dL_law__2300 : decode cL_law_ 2300 = .ok (.iload 4, 2) := by decide +kernel
theorem dL_law__2302 : decode cL_law_ 2302 = .ok (.iconst 4, 1) := by decide +kernel
theorem dL_law__2303 : decode cL_law_ 2303 = .ok (.iadd, 1) := by decide +kernel
theorem dL_law__2304 : decode cL_law_ 2304 = .ok (.iaload, 1) := by decide +kernel
theorem dL_law__2305 : decode cL_law_ 2305 = .ok (.invokevirtual 236, 3) := by decide +kernel
theorem dL_law__2308 : decode cL_law_ 2308 = .ok (.istore 6, 2) := by decide +kernel
theorem dL_law__2310 : decode cL_law_ 2310 = .ok (.aload_n 2, 1) := by decide +kernel
theorem dL_law__2311 : decode cL_law_ 2311 = .ok (.invokevirtual 149, 3) := by decide +kernel
theorem dL_law__2314 : decode cL_law_ 2314 = .ok (.iload 5, 2) := by decide +kernel
theorem dL_law__2316 : decode cL_law_ 2316 = .ok (.if_icmp .eq 5, 3) := by decide +kernel
theorem dL_law__2319 : decode cL_law_ 2319 = .ok (.iconst 0, 1) := by decide +kernel
theorem dL_law__2320 : decode cL_law_ 2320 = .ok (.ireturn, 1) := by decide +kernel
theorem dL_law__2321 : decode cL_law_ 2321 = .ok (.iload 5, 2) := by decide +kernel
theorem dL_law__2323 : decode cL_law_ 2323 = .ok (.ifCond .ne 15, 3) := by decide +kernel
theorem dL_law__2326 : decode cL_law_ 2326 = .ok (.aload_n 3, 1) := by decide +kernel
theorem dL_law__2327 : decode cL_law_ 2327 = .ok (.iconst 0, 1) := by decide +kernel
theorem dL_law__2328 : decode cL_law_ 2328 = .ok (.laload, 1) := by decide +kernel
theorem dL_law__2329 : decode cL_law_ 2329 = .ok (.iload 6, 2) := by decide +kernel
theorem dL_law__2331 : decode cL_law_ 2331 = .ok (.i2l, 1) := by decide +kernel
theorem dL_law__2332 : decode cL_law_ 2332 = .ok (.lcmp, 1) := by decide +kernel
theorem dL_law__2333 : decode cL_law_ 2333 = .ok (.ifCond .eq 5, 3) := by decide +kernel
theorem dL_law__2336 : decode cL_law_ 2336 = .ok (.iconst 0, 1) := by decide +kernel
theorem dL_law__2337 : decode cL_law_ 2337 = .ok (.ireturn, 1) := by decide +kernel
theorem dL_law__2338 : decode cL_law_ 2338 = .ok (.goto 889, 3) := by decide +kernel
theorem dL_law__2341 : decode cL_law_ 2341 = .ok (.aload_n 1, 1) := by decide +kernel
theorem dL_law__2342 : decode cL_law_ 2342 = .ok (.aload_n 0, 1) := by decide +kernel
theorem dL_law__2343 : decode cL_law_ 2343 = .ok (.iload 4, 2) := by decide +kernel
theorem dL_law__2345 : decode cL_law_ 2345 = .ok (.iconst 1, 1) := by decide +kernel
theorem dL_law__2346 : decode cL_law_ 2346 = .ok (.iadd, 1) := by decide +kernel
theorem dL_law__2347 : decode cL_law_ 2347 = .ok (.iaload, 1) := by decide +kernel
theorem dL_law__2348 : decode cL_law_ 2348 = .ok (.aload_n 0, 1) := by decide +kernel
theorem dL_law__2349 : decode cL_law_ 2349 = .ok (.iload 4, 2) := by decide +kernel
theorem dL_law__2351 : decode cL_law_ 2351 = .ok (.iconst 2, 1) := by decide +kernel
theorem dL_law__2352 : decode cL_law_ 2352 = .ok (.iadd, 1) := by decide +kernel
theorem dL_law__2353 : decode cL_law_ 2353 = .ok (.iaload, 1) := by decide +kernel
theorem dL_law__2354 : decode cL_law_ 2354 = .ok (.aload_n 0, 1) := by decide +kernel
theorem dL_law__2355 : decode cL_law_ 2355 = .ok (.iload 4, 2) := by decide +kernel
theorem dL_law__2357 : decode cL_law_ 2357 = .ok (.iconst 3, 1) := by decide +kernel
theorem dL_law__2358 : decode cL_law_ 2358 = .ok (.iadd, 1) := by decide +kernel
theorem dL_law__2359 : decode cL_law_ 2359 = .ok (.iaload, 1) := by decide +kernel
theorem dL_law__2360 : decode cL_law_ 2360 = .ok (.aload_n 0, 1) := by decide +kernel
theorem dL_law__2361 : decode cL_law_ 2361 = .ok (.iload 4, 2) := by decide +kernel
theorem dL_law__2363 : decode cL_law_ 2363 = .ok (.iconst 4, 1) := by decide +kernel
theorem dL_law__2364 : decode cL_law_ 2364 = .ok (.iadd, 1) := by decide +kernel
theorem dL_law__2365 : decode cL_law_ 2365 = .ok (.iaload, 1) := by decide +kernel
theorem dL_law__2366 : decode cL_law_ 2366 = .ok (.aload_n 0, 1) := by decide +kernel
theorem dL_law__2367 : decode cL_law_ 2367 = .ok (.iload 4, 2) := by decide +kernel
theorem dL_law__2369 : decode cL_law_ 2369 = .ok (.iconst 5, 1) := by decide +kernel
theorem dL_law__2370 : decode cL_law_ 2370 = .ok (.iadd, 1) := by decide +kernel
theorem dL_law__2371 : decode cL_law_ 2371 = .ok (.iaload, 1) := by decide +kernel
theorem dL_law__2372 : decode cL_law_ 2372 = .ok (.aload_n 0, 1) := by decide +kernel
theorem dL_law__2373 : decode cL_law_ 2373 = .ok (.iload 4, 2) := by decide +kernel
theorem dL_law__2375 : decode cL_law_ 2375 = .ok (.bipush 6, 2) := by decide +kernel
theorem dL_law__2377 : decode cL_law_ 2377 = .ok (.iadd, 1) := by decide +kernel
theorem dL_law__2378 : decode cL_law_ 2378 = .ok (.iaload, 1) := by decide +kernel
theorem dL_law__2379 : decode cL_law_ 2379 = .ok (.aload_n 3, 1) := by decide +kernel
theorem dL_law__2380 : decode cL_law_ 2380 = .ok (.invokestatic 237, 3) := by decide +kernel
theorem dL_law__2383 : decode cL_law_ 2383 = .ok (.istore 5, 2) := by decide +kernel
theorem dL_law__2385 : decode cL_law_ 2385 = .ok (.aload_n 2, 1) := by decide +kernel
theorem dL_law__2386 : decode cL_law_ 2386 = .ok (.aload_n 0, 1) := by decide +kernel
theorem dL_law__2387 : decode cL_law_ 2387 = .ok (.iload 4, 2) := by decide +kernel
theorem dL_law__2389 : decode cL_law_ 2389 = .ok (.iconst 1, 1) := by decide +kernel
theorem dL_law__2390 : decode cL_law_ 2390 = .ok (.iadd, 1) := by decide +kernel
theorem dL_law__2391 : decode cL_law_ 2391 = .ok (.iaload, 1) := by decide +kernel
theorem dL_law__2392 : decode cL_law_ 2392 = .ok (.aload_n 0, 1) := by decide +kernel
theorem dL_law__2393 : decode cL_law_ 2393 = .ok (.iload 4, 2) := by decide +kernel
theorem dL_law__2395 : decode cL_law_ 2395 = .ok (.iconst 2, 1) := by decide +kernel
theorem dL_law__2396 : decode cL_law_ 2396 = .ok (.iadd, 1) := by decide +kernel
theorem dL_law__2397 : decode cL_law_ 2397 = .ok (.iaload, 1) := by decide +kernel
theorem dL_law__2398 : decode cL_law_ 2398 = .ok (.aload_n 0, 1) := by decide +kernel
theorem dL_law__2399 : decode cL_law_ 2399 = .ok (.iload 4, 2) := by decide +kernel
theorem dL_law__2401 : decode cL_law_ 2401 = .ok (.iconst 3, 1) := by decide +kernel
theorem dL_law__2402 : decode cL_law_ 2402 = .ok (.iadd, 1) := by decide +kernel
theorem dL_law__2403 : decode cL_law_ 2403 = .ok (.iaload, 1) := by decide +kernel
theorem dL_law__2404 : decode cL_law_ 2404 = .ok (.aload_n 0, 1) := by decide +kernel
theorem dL_law__2405 : decode cL_law_ 2405 = .ok (.iload 4, 2) := by decide +kernel
theorem dL_law__2407 : decode cL_law_ 2407 = .ok (.iconst 4, 1) := by decide +kernel
theorem dL_law__2408 : decode cL_law_ 2408 = .ok (.iadd, 1) := by decide +kernel
theorem dL_law__2409 : decode cL_law_ 2409 = .ok (.iaload, 1) := by decide +kernel
theorem dL_law__2410 : decode cL_law_ 2410 = .ok (.aload_n 0, 1) := by decide +kernel
theorem dL_law__2411 : decode cL_law_ 2411 = .ok (.iload 4, 2) := by decide +kernel
theorem dL_law__2413 : decode cL_law_ 2413 = .ok (.iconst 5, 1) := by decide +kernel
theorem dL_law__2414 : decode cL_law_ 2414 = .ok (.iadd, 1) := by decide +kernel
theorem dL_law__2415 : decode cL_law_ 2415 = .ok (.iaload, 1) := by decide +kernel
theorem dL_law__2416 : decode cL_law_ 2416 = .ok (.aload_n 0, 1) := by decide +kernel
theorem dL_law__2417 : decode cL_law_ 2417 = .ok (.iload 4, 2) := by decide +kernel
theorem dL_law__2419 : decode cL_law_ 2419 = .ok (.bipush 6, 2) := by decide +kernel
theorem dL_law__2421 : decode cL_law_ 2421 = .ok (.iadd, 1) := by decide +kernel
theorem dL_law__2422 : decode cL_law_ 2422 = .ok (.iaload, 1) := by decide +kernel
theorem dL_law__2423 : decode cL_law_ 2423 = .ok (.invokevirtual 240, 3) := by decide +kernel
theorem dL_law__2426 : decode cL_law_ 2426 = .ok (.istore 6, 2) := by decide +kernel
theorem dL_law__2428 : decode cL_law_ 2428 = .ok (.aload_n 2, 1) := by decide +kernel
theorem dL_law__2429 : decode cL_law_ 2429 = .ok (.invokevirtual 149, 3) := by decide +kernel
theorem dL_law__2432 : decode cL_law_ 2432 = .ok (.iload 5, 2) := by decide +kernel
theorem dL_law__2434 : decode cL_law_ 2434 = .ok (.if_icmp .eq 5, 3) := by decide +kernel
theorem dL_law__2437 : decode cL_law_ 2437 = .ok (.iconst 0, 1) := by decide +kernel
theorem dL_law__2438 : decode cL_law_ 2438 = .ok (.ireturn, 1) := by decide +kernel
theorem dL_law__2439 : decode cL_law_ 2439 = .ok (.iload 5, 2) := by decide +kernel
theorem dL_law__2441 : decode cL_law_ 2441 = .ok (.ifCond .ne 15, 3) := by decide +kernel
theorem dL_law__2444 : decode cL_law_ 2444 = .ok (.aload_n 3, 1) := by decide +kernel
theorem dL_law__2445 : decode cL_law_ 2445 = .ok (.iconst 0, 1) := by decide +kernel
theorem dL_law__2446 : decode cL_law_ 2446 = .ok (.laload, 1) := by decide +kernel
theorem dL_law__2447 : decode cL_law_ 2447 = .ok (.iload 6, 2) := by decide +kernel
theorem dL_law__2449 : decode cL_law_ 2449 = .ok (.i2l, 1) := by decide +kernel
theorem dL_law__2450 : decode cL_law_ 2450 = .ok (.lcmp, 1) := by decide +kernel
theorem dL_law__2451 : decode cL_law_ 2451 = .ok (.ifCond .eq 5, 3) := by decide +kernel
theorem dL_law__2454 : decode cL_law_ 2454 = .ok (.iconst 0, 1) := by decide +kernel
theorem dL_law__2455 : decode cL_law_ 2455 = .ok (.ireturn, 1) := by decide +kernel
theorem dL_law__2456 : decode cL_law_ 2456 = .ok (.goto 771, 3) := by decide +kernel
theorem dL_law__2459 : decode cL_law_ 2459 = .ok (.aload_n 1, 1) := by decide +kernel
theorem dL_law__2460 : decode cL_law_ 2460 = .ok (.aload_n 0, 1) := by decide +kernel
theorem dL_law__2461 : decode cL_law_ 2461 = .ok (.iload 4, 2) := by decide +kernel
theorem dL_law__2463 : decode cL_law_ 2463 = .ok (.iconst 1, 1) := by decide +kernel
theorem dL_law__2464 : decode cL_law_ 2464 = .ok (.iadd, 1) := by decide +kernel
theorem dL_law__2465 : decode cL_law_ 2465 = .ok (.iaload, 1) := by decide +kernel
theorem dL_law__2466 : decode cL_law_ 2466 = .ok (.aload_n 0, 1) := by decide +kernel
theorem dL_law__2467 : decode cL_law_ 2467 = .ok (.iload 4, 2) := by decide +kernel
theorem dL_law__2469 : decode cL_law_ 2469 = .ok (.iconst 2, 1) := by decide +kernel
theorem dL_law__2470 : decode cL_law_ 2470 = .ok (.iadd, 1) := by decide +kernel
theorem dL_law__2471 : decode cL_law_ 2471 = .ok (.iaload, 1) := by decide +kernel
theorem dL_law__2472 : decode cL_law_ 2472 = .ok (.aload_n 0, 1) := by decide +kernel
theorem dL_law__2473 : decode cL_law_ 2473 = .ok (.iload 4, 2) := by decide +kernel
theorem dL_law__2475 : decode cL_law_ 2475 = .ok (.iconst 3, 1) := by decide +kernel
theorem dL_law__2476 : decode cL_law_ 2476 = .ok (.iadd, 1) := by decide +kernel
theorem dL_law__2477 : decode cL_law_ 2477 = .ok (.iaload, 1) := by decide +kernel
theorem dL_law__2478 : decode cL_law_ 2478 = .ok (.aload_n 3, 1) := by decide +kernel
theorem dL_law__2479 : decode cL_law_ 2479 = .ok (.invokestatic 241, 3) := by decide +kernel
theorem dL_law__2482 : decode cL_law_ 2482 = .ok (.istore 5, 2) := by decide +kernel
theorem dL_law__2484 : decode cL_law_ 2484 = .ok (.aload_n 2, 1) := by decide +kernel
theorem dL_law__2485 : decode cL_law_ 2485 = .ok (.aload_n 0, 1) := by decide +kernel
theorem dL_law__2486 : decode cL_law_ 2486 = .ok (.iload 4, 2) := by decide +kernel
theorem dL_law__2488 : decode cL_law_ 2488 = .ok (.iconst 1, 1) := by decide +kernel
theorem dL_law__2489 : decode cL_law_ 2489 = .ok (.iadd, 1) := by decide +kernel
theorem dL_law__2490 : decode cL_law_ 2490 = .ok (.iaload, 1) := by decide +kernel
theorem dL_law__2491 : decode cL_law_ 2491 = .ok (.aload_n 0, 1) := by decide +kernel
theorem dL_law__2492 : decode cL_law_ 2492 = .ok (.iload 4, 2) := by decide +kernel
theorem dL_law__2494 : decode cL_law_ 2494 = .ok (.iconst 2, 1) := by decide +kernel
theorem dL_law__2495 : decode cL_law_ 2495 = .ok (.iadd, 1) := by decide +kernel
theorem dL_law__2496 : decode cL_law_ 2496 = .ok (.iaload, 1) := by decide +kernel
theorem dL_law__2497 : decode cL_law_ 2497 = .ok (.aload_n 0, 1) := by decide +kernel
theorem dL_law__2498 : decode cL_law_ 2498 = .ok (.iload 4, 2) := by decide +kernel
theorem dL_law__2500 : decode cL_law_ 2500 = .ok (.iconst 3, 1) := by decide +kernel
theorem dL_law__2501 : decode cL_law_ 2501 = .ok (.iadd, 1) := by decide +kernel
theorem dL_law__2502 : decode cL_law_ 2502 = .ok (.iaload, 1) := by decide +kernel
theorem dL_law__2503 : decode cL_law_ 2503 = .ok (.invokevirtual 243, 3) := by decide +kernel
theorem dL_law__2506 : decode cL_law_ 2506 = .ok (.istore 6, 2) := by decide +kernel
theorem dL_law__2508 : decode cL_law_ 2508 = .ok (.aload_n 2, 1) := by decide +kernel
theorem dL_law__2509 : decode cL_law_ 2509 = .ok (.invokevirtual 149, 3) := by decide +kernel
theorem dL_law__2512 : decode cL_law_ 2512 = .ok (.iload 5, 2) := by decide +kernel
theorem dL_law__2514 : decode cL_law_ 2514 = .ok (.if_icmp .eq 5, 3) := by decide +kernel
theorem dL_law__2517 : decode cL_law_ 2517 = .ok (.iconst 0, 1) := by decide +kernel
theorem dL_law__2518 : decode cL_law_ 2518 = .ok (.ireturn, 1) := by decide +kernel
theorem dL_law__2519 : decode cL_law_ 2519 = .ok (.iload 5, 2) := by decide +kernel
theorem dL_law__2521 : decode cL_law_ 2521 = .ok (.ifCond .ne 15, 3) := by decide +kernel
theorem dL_law__2524 : decode cL_law_ 2524 = .ok (.aload_n 3, 1) := by decide +kernel
theorem dL_law__2525 : decode cL_law_ 2525 = .ok (.iconst 0, 1) := by decide +kernel
theorem dL_law__2526 : decode cL_law_ 2526 = .ok (.laload, 1) := by decide +kernel
theorem dL_law__2527 : decode cL_law_ 2527 = .ok (.iload 6, 2) := by decide +kernel
theorem dL_law__2529 : decode cL_law_ 2529 = .ok (.i2l, 1) := by decide +kernel
theorem dL_law__2530 : decode cL_law_ 2530 = .ok (.lcmp, 1) := by decide +kernel
theorem dL_law__2531 : decode cL_law_ 2531 = .ok (.ifCond .eq 5, 3) := by decide +kernel
theorem dL_law__2534 : decode cL_law_ 2534 = .ok (.iconst 0, 1) := by decide +kernel
theorem dL_law__2535 : decode cL_law_ 2535 = .ok (.ireturn, 1) := by decide +kernel
theorem dL_law__2536 : decode cL_law_ 2536 = .ok (.goto 691, 3) := by decide +kernel
theorem dL_law__2539 : decode cL_law_ 2539 = .ok (.aload_n 1, 1) := by decide +kernel
theorem dL_law__2540 : decode cL_law_ 2540 = .ok (.aload_n 0, 1) := by decide +kernel
theorem dL_law__2541 : decode cL_law_ 2541 = .ok (.iload 4, 2) := by decide +kernel
theorem dL_law__2543 : decode cL_law_ 2543 = .ok (.iconst 1, 1) := by decide +kernel
theorem dL_law__2544 : decode cL_law_ 2544 = .ok (.iadd, 1) := by decide +kernel
theorem dL_law__2545 : decode cL_law_ 2545 = .ok (.iaload, 1) := by decide +kernel
theorem dL_law__2546 : decode cL_law_ 2546 = .ok (.aload_n 3, 1) := by decide +kernel
theorem dL_law__2547 : decode cL_law_ 2547 = .ok (.invokestatic 244, 3) := by decide +kernel
theorem dL_law__2550 : decode cL_law_ 2550 = .ok (.istore 5, 2) := by decide +kernel
theorem dL_law__2552 : decode cL_law_ 2552 = .ok (.aload_n 2, 1) := by decide +kernel
theorem dL_law__2553 : decode cL_law_ 2553 = .ok (.aload_n 0, 1) := by decide +kernel
theorem dL_law__2554 : decode cL_law_ 2554 = .ok (.iload 4, 2) := by decide +kernel
theorem dL_law__2556 : decode cL_law_ 2556 = .ok (.iconst 1, 1) := by decide +kernel
theorem dL_law__2557 : decode cL_law_ 2557 = .ok (.iadd, 1) := by decide +kernel
theorem dL_law__2558 : decode cL_law_ 2558 = .ok (.iaload, 1) := by decide +kernel
theorem dL_law__2559 : decode cL_law_ 2559 = .ok (.invokevirtual 246, 3) := by decide +kernel
theorem dL_law__2562 : decode cL_law_ 2562 = .ok (.istore 6, 2) := by decide +kernel
theorem dL_law__2564 : decode cL_law_ 2564 = .ok (.aload_n 2, 1) := by decide +kernel
theorem dL_law__2565 : decode cL_law_ 2565 = .ok (.invokevirtual 149, 3) := by decide +kernel
theorem dL_law__2568 : decode cL_law_ 2568 = .ok (.iload 5, 2) := by decide +kernel
theorem dL_law__2570 : decode cL_law_ 2570 = .ok (.if_icmp .eq 5, 3) := by decide +kernel
theorem dL_law__2573 : decode cL_law_ 2573 = .ok (.iconst 0, 1) := by decide +kernel
theorem dL_law__2574 : decode cL_law_ 2574 = .ok (.ireturn, 1) := by decide +kernel
theorem dL_law__2575 : decode cL_law_ 2575 = .ok (.iload 5, 2) := by decide +kernel
theorem dL_law__2577 : decode cL_law_ 2577 = .ok (.ifCond .ne 15, 3) := by decide +kernel
theorem dL_law__2580 : decode cL_law_ 2580 = .ok (.aload_n 3, 1) := by decide +kernel
theorem dL_law__2581 : decode cL_law_ 2581 = .ok (.iconst 0, 1) := by decide +kernel
theorem dL_law__2582 : decode cL_law_ 2582 = .ok (.laload, 1) := by decide +kernel
theorem dL_law__2583 : decode cL_law_ 2583 = .ok (.iload 6, 2) := by decide +kernel
theorem dL_law__2585 : decode cL_law_ 2585 = .ok (.i2l, 1) := by decide +kernel
theorem dL_law__2586 : decode cL_law_ 2586 = .ok (.lcmp, 1) := by decide +kernel
theorem dL_law__2587 : decode cL_law_ 2587 = .ok (.ifCond .eq 5, 3) := by decide +kernel
theorem dL_law__2590 : decode cL_law_ 2590 = .ok (.iconst 0, 1) := by decide +kernel
theorem dL_law__2591 : decode cL_law_ 2591 = .ok (.ireturn, 1) := by decide +kernel
theorem dL_law__2592 : decode cL_law_ 2592 = .ok (.goto 635, 3) := by decide +kernel
theorem dL_law__2595 : decode cL_law_ 2595 = .ok (.aload_n 1, 1) := by decide +kernel
theorem dL_law__2596 : decode cL_law_ 2596 = .ok (.aload_n 0, 1) := by decide +kernel
theorem dL_law__2597 : decode cL_law_ 2597 = .ok (.iload 4, 2) := by decide +kernel
theorem dL_law__2599 : decode cL_law_ 2599 = .ok (.iconst 1, 1) := by decide +kernel
theorem dL_law__2600 : decode cL_law_ 2600 = .ok (.iadd, 1) := by decide +kernel
theorem dL_law__2601 : decode cL_law_ 2601 = .ok (.iaload, 1) := by decide +kernel
theorem dL_law__2602 : decode cL_law_ 2602 = .ok (.aload_n 0, 1) := by decide +kernel
theorem dL_law__2603 : decode cL_law_ 2603 = .ok (.iload 4, 2) := by decide +kernel
theorem dL_law__2605 : decode cL_law_ 2605 = .ok (.iconst 2, 1) := by decide +kernel
theorem dL_law__2606 : decode cL_law_ 2606 = .ok (.iadd, 1) := by decide +kernel
theorem dL_law__2607 : decode cL_law_ 2607 = .ok (.iaload, 1) := by decide +kernel
theorem dL_law__2608 : decode cL_law_ 2608 = .ok (.aload_n 0, 1) := by decide +kernel
theorem dL_law__2609 : decode cL_law_ 2609 = .ok (.iload 4, 2) := by decide +kernel
theorem dL_law__2611 : decode cL_law_ 2611 = .ok (.iconst 3, 1) := by decide +kernel
theorem dL_law__2612 : decode cL_law_ 2612 = .ok (.iadd, 1) := by decide +kernel
theorem dL_law__2613 : decode cL_law_ 2613 = .ok (.iaload, 1) := by decide +kernel
theorem dL_law__2614 : decode cL_law_ 2614 = .ok (.aload_n 3, 1) := by decide +kernel
theorem dL_law__2615 : decode cL_law_ 2615 = .ok (.invokestatic 247, 3) := by decide +kernel
theorem dL_law__2618 : decode cL_law_ 2618 = .ok (.istore 5, 2) := by decide +kernel
theorem dL_law__2620 : decode cL_law_ 2620 = .ok (.aload_n 2, 1) := by decide +kernel
theorem dL_law__2621 : decode cL_law_ 2621 = .ok (.aload_n 0, 1) := by decide +kernel
theorem dL_law__2622 : decode cL_law_ 2622 = .ok (.iload 4, 2) := by decide +kernel
theorem dL_law__2624 : decode cL_law_ 2624 = .ok (.iconst 1, 1) := by decide +kernel
theorem dL_law__2625 : decode cL_law_ 2625 = .ok (.iadd, 1) := by decide +kernel
theorem dL_law__2626 : decode cL_law_ 2626 = .ok (.iaload, 1) := by decide +kernel
theorem dL_law__2627 : decode cL_law_ 2627 = .ok (.aload_n 0, 1) := by decide +kernel
theorem dL_law__2628 : decode cL_law_ 2628 = .ok (.iload 4, 2) := by decide +kernel
theorem dL_law__2630 : decode cL_law_ 2630 = .ok (.iconst 2, 1) := by decide +kernel
theorem dL_law__2631 : decode cL_law_ 2631 = .ok (.iadd, 1) := by decide +kernel
theorem dL_law__2632 : decode cL_law_ 2632 = .ok (.iaload, 1) := by decide +kernel
theorem dL_law__2633 : decode cL_law_ 2633 = .ok (.aload_n 0, 1) := by decide +kernel
theorem dL_law__2634 : decode cL_law_ 2634 = .ok (.iload 4, 2) := by decide +kernel
theorem dL_law__2636 : decode cL_law_ 2636 = .ok (.iconst 3, 1) := by decide +kernel
theorem dL_law__2637 : decode cL_law_ 2637 = .ok (.iadd, 1) := by decide +kernel
theorem dL_law__2638 : decode cL_law_ 2638 = .ok (.iaload, 1) := by decide +kernel
theorem dL_law__2639 : decode cL_law_ 2639 = .ok (.invokevirtual 249, 3) := by decide +kernel
theorem dL_law__2642 : decode cL_law_ 2642 = .ok (.istore 6, 2) := by decide +kernel
theorem dL_law__2644 : decode cL_law_ 2644 = .ok (.aload_n 2, 1) := by decide +kernel
theorem dL_law__2645 : decode cL_law_ 2645 = .ok (.invokevirtual 149, 3) := by decide +kernel
theorem dL_law__2648 : decode cL_law_ 2648 = .ok (.iload 5, 2) := by decide +kernel
theorem dL_law__2650 : decode cL_law_ 2650 = .ok (.if_icmp .eq 5, 3) := by decide +kernel
theorem dL_law__2653 : decode cL_law_ 2653 = .ok (.iconst 0, 1) := by decide +kernel
theorem dL_law__2654 : decode cL_law_ 2654 = .ok (.ireturn, 1) := by decide +kernel
theorem dL_law__2655 : decode cL_law_ 2655 = .ok (.iload 5, 2) := by decide +kernel
theorem dL_law__2657 : decode cL_law_ 2657 = .ok (.ifCond .ne 15, 3) := by decide +kernel
theorem dL_law__2660 : decode cL_law_ 2660 = .ok (.aload_n 3, 1) := by decide +kernel
theorem dL_law__2661 : decode cL_law_ 2661 = .ok (.iconst 0, 1) := by decide +kernel
theorem dL_law__2662 : decode cL_law_ 2662 = .ok (.laload, 1) := by decide +kernel
theorem dL_law__2663 : decode cL_law_ 2663 = .ok (.iload 6, 2) := by decide +kernel
theorem dL_law__2665 : decode cL_law_ 2665 = .ok (.i2l, 1) := by decide +kernel
theorem dL_law__2666 : decode cL_law_ 2666 = .ok (.lcmp, 1) := by decide +kernel
theorem dL_law__2667 : decode cL_law_ 2667 = .ok (.ifCond .eq 5, 3) := by decide +kernel
theorem dL_law__2670 : decode cL_law_ 2670 = .ok (.iconst 0, 1) := by decide +kernel
theorem dL_law__2671 : decode cL_law_ 2671 = .ok (.ireturn, 1) := by decide +kernel
theorem dL_law__2672 : decode cL_law_ 2672 = .ok (.goto 555, 3) := by decide +kernel
theorem dL_law__2675 : decode cL_law_ 2675 = .ok (.aload_n 1, 1) := by decide +kernel
theorem dL_law__2676 : decode cL_law_ 2676 = .ok (.aload_n 0, 1) := by decide +kernel
theorem dL_law__2677 : decode cL_law_ 2677 = .ok (.iload 4, 2) := by decide +kernel
theorem dL_law__2679 : decode cL_law_ 2679 = .ok (.iconst 1, 1) := by decide +kernel
theorem dL_law__2680 : decode cL_law_ 2680 = .ok (.iadd, 1) := by decide +kernel
theorem dL_law__2681 : decode cL_law_ 2681 = .ok (.iaload, 1) := by decide +kernel
theorem dL_law__2682 : decode cL_law_ 2682 = .ok (.aload_n 0, 1) := by decide +kernel
theorem dL_law__2683 : decode cL_law_ 2683 = .ok (.iload 4, 2) := by decide +kernel
theorem dL_law__2685 : decode cL_law_ 2685 = .ok (.iconst 2, 1) := by decide +kernel
theorem dL_law__2686 : decode cL_law_ 2686 = .ok (.iadd, 1) := by decide +kernel
theorem dL_law__2687 : decode cL_law_ 2687 = .ok (.iaload, 1) := by decide +kernel
theorem dL_law__2688 : decode cL_law_ 2688 = .ok (.aload_n 0, 1) := by decide +kernel
theorem dL_law__2689 : decode cL_law_ 2689 = .ok (.iload 4, 2) := by decide +kernel
theorem dL_law__2691 : decode cL_law_ 2691 = .ok (.iconst 3, 1) := by decide +kernel
theorem dL_law__2692 : decode cL_law_ 2692 = .ok (.iadd, 1) := by decide +kernel
theorem dL_law__2693 : decode cL_law_ 2693 = .ok (.iaload, 1) := by decide +kernel
theorem dL_law__2694 : decode cL_law_ 2694 = .ok (.aload_n 3, 1) := by decide +kernel
theorem dL_law__2695 : decode cL_law_ 2695 = .ok (.invokestatic 250, 3) := by decide +kernel
theorem dL_law__2698 : decode cL_law_ 2698 = .ok (.istore 5, 2) := by decide +kernel
theorem dL_law__2700 : decode cL_law_ 2700 = .ok (.aload_n 2, 1) := by decide +kernel
theorem dL_law__2701 : decode cL_law_ 2701 = .ok (.aload_n 0, 1) := by decide +kernel
theorem dL_law__2702 : decode cL_law_ 2702 = .ok (.iload 4, 2) := by decide +kernel
theorem dL_law__2704 : decode cL_law_ 2704 = .ok (.iconst 1, 1) := by decide +kernel
theorem dL_law__2705 : decode cL_law_ 2705 = .ok (.iadd, 1) := by decide +kernel
theorem dL_law__2706 : decode cL_law_ 2706 = .ok (.iaload, 1) := by decide +kernel
theorem dL_law__2707 : decode cL_law_ 2707 = .ok (.aload_n 0, 1) := by decide +kernel
theorem dL_law__2708 : decode cL_law_ 2708 = .ok (.iload 4, 2) := by decide +kernel
theorem dL_law__2710 : decode cL_law_ 2710 = .ok (.iconst 2, 1) := by decide +kernel
theorem dL_law__2711 : decode cL_law_ 2711 = .ok (.iadd, 1) := by decide +kernel
theorem dL_law__2712 : decode cL_law_ 2712 = .ok (.iaload, 1) := by decide +kernel
theorem dL_law__2713 : decode cL_law_ 2713 = .ok (.aload_n 0, 1) := by decide +kernel
theorem dL_law__2714 : decode cL_law_ 2714 = .ok (.iload 4, 2) := by decide +kernel
theorem dL_law__2716 : decode cL_law_ 2716 = .ok (.iconst 3, 1) := by decide +kernel
theorem dL_law__2717 : decode cL_law_ 2717 = .ok (.iadd, 1) := by decide +kernel
theorem dL_law__2718 : decode cL_law_ 2718 = .ok (.iaload, 1) := by decide +kernel
theorem dL_law__2719 : decode cL_law_ 2719 = .ok (.invokevirtual 252, 3) := by decide +kernel
theorem dL_law__2722 : decode cL_law_ 2722 = .ok (.istore 6, 2) := by decide +kernel
theorem dL_law__2724 : decode cL_law_ 2724 = .ok (.aload_n 2, 1) := by decide +kernel
theorem dL_law__2725 : decode cL_law_ 2725 = .ok (.invokevirtual 149, 3) := by decide +kernel
theorem dL_law__2728 : decode cL_law_ 2728 = .ok (.iload 5, 2) := by decide +kernel
theorem dL_law__2730 : decode cL_law_ 2730 = .ok (.if_icmp .eq 5, 3) := by decide +kernel
theorem dL_law__2733 : decode cL_law_ 2733 = .ok (.iconst 0, 1) := by decide +kernel
theorem dL_law__2734 : decode cL_law_ 2734 = .ok (.ireturn, 1) := by decide +kernel
theorem dL_law__2735 : decode cL_law_ 2735 = .ok (.iload 5, 2) := by decide +kernel
theorem dL_law__2737 : decode cL_law_ 2737 = .ok (.ifCond .ne 15, 3) := by decide +kernel
theorem dL_law__2740 : decode cL_law_ 2740 = .ok (.aload_n 3, 1) := by decide +kernel
theorem dL_law__2741 : decode cL_law_ 2741 = .ok (.iconst 0, 1) := by decide +kernel
theorem dL_law__2742 : decode cL_law_ 2742 = .ok (.laload, 1) := by decide +kernel
theorem dL_law__2743 : decode cL_law_ 2743 = .ok (.iload 6, 2) := by decide +kernel
theorem dL_law__2745 : decode cL_law_ 2745 = .ok (.i2l, 1) := by decide +kernel
theorem dL_law__2746 : decode cL_law_ 2746 = .ok (.lcmp, 1) := by decide +kernel
theorem dL_law__2747 : decode cL_law_ 2747 = .ok (.ifCond .eq 5, 3) := by decide +kernel
theorem dL_law__2750 : decode cL_law_ 2750 = .ok (.iconst 0, 1) := by decide +kernel
theorem dL_law__2751 : decode cL_law_ 2751 = .ok (.ireturn, 1) := by decide +kernel
theorem dL_law__2752 : decode cL_law_ 2752 = .ok (.goto 475, 3) := by decide +kernel
theorem dL_law__2755 : decode cL_law_ 2755 = .ok (.aload_n 1, 1) := by decide +kernel
theorem dL_law__2756 : decode cL_law_ 2756 = .ok (.aload_n 0, 1) := by decide +kernel
theorem dL_law__2757 : decode cL_law_ 2757 = .ok (.iload 4, 2) := by decide +kernel
theorem dL_law__2759 : decode cL_law_ 2759 = .ok (.iconst 1, 1) := by decide +kernel
theorem dL_law__2760 : decode cL_law_ 2760 = .ok (.iadd, 1) := by decide +kernel
theorem dL_law__2761 : decode cL_law_ 2761 = .ok (.iaload, 1) := by decide +kernel
theorem dL_law__2762 : decode cL_law_ 2762 = .ok (.aload_n 0, 1) := by decide +kernel
theorem dL_law__2763 : decode cL_law_ 2763 = .ok (.iload 4, 2) := by decide +kernel
theorem dL_law__2765 : decode cL_law_ 2765 = .ok (.iconst 2, 1) := by decide +kernel
theorem dL_law__2766 : decode cL_law_ 2766 = .ok (.iadd, 1) := by decide +kernel
theorem dL_law__2767 : decode cL_law_ 2767 = .ok (.iaload, 1) := by decide +kernel
theorem dL_law__2768 : decode cL_law_ 2768 = .ok (.aload_n 3, 1) := by decide +kernel
theorem dL_law__2769 : decode cL_law_ 2769 = .ok (.invokestatic 253, 3) := by decide +kernel
theorem dL_law__2772 : decode cL_law_ 2772 = .ok (.istore 5, 2) := by decide +kernel
theorem dL_law__2774 : decode cL_law_ 2774 = .ok (.aload_n 2, 1) := by decide +kernel
theorem dL_law__2775 : decode cL_law_ 2775 = .ok (.aload_n 0, 1) := by decide +kernel
theorem dL_law__2776 : decode cL_law_ 2776 = .ok (.iload 4, 2) := by decide +kernel
theorem dL_law__2778 : decode cL_law_ 2778 = .ok (.iconst 1, 1) := by decide +kernel
theorem dL_law__2779 : decode cL_law_ 2779 = .ok (.iadd, 1) := by decide +kernel
theorem dL_law__2780 : decode cL_law_ 2780 = .ok (.iaload, 1) := by decide +kernel
theorem dL_law__2781 : decode cL_law_ 2781 = .ok (.aload_n 0, 1) := by decide +kernel
theorem dL_law__2782 : decode cL_law_ 2782 = .ok (.iload 4, 2) := by decide +kernel
theorem dL_law__2784 : decode cL_law_ 2784 = .ok (.iconst 2, 1) := by decide +kernel
theorem dL_law__2785 : decode cL_law_ 2785 = .ok (.iadd, 1) := by decide +kernel
theorem dL_law__2786 : decode cL_law_ 2786 = .ok (.iaload, 1) := by decide +kernel
theorem dL_law__2787 : decode cL_law_ 2787 = .ok (.invokevirtual 255, 3) := by decide +kernel
theorem dL_law__2790 : decode cL_law_ 2790 = .ok (.istore 6, 2) := by decide +kernel
theorem dL_law__2792 : decode cL_law_ 2792 = .ok (.aload_n 2, 1) := by decide +kernel
theorem dL_law__2793 : decode cL_law_ 2793 = .ok (.invokevirtual 149, 3) := by decide +kernel
theorem dL_law__2796 : decode cL_law_ 2796 = .ok (.iload 5, 2) := by decide +kernel
theorem dL_law__2798 : decode cL_law_ 2798 = .ok (.if_icmp .eq 5, 3) := by decide +kernel
theorem dL_law__2801 : decode cL_law_ 2801 = .ok (.iconst 0, 1) := by decide +kernel
theorem dL_law__2802 : decode cL_law_ 2802 = .ok (.ireturn, 1) := by decide +kernel
theorem dL_law__2803 : decode cL_law_ 2803 = .ok (.iload 5, 2) := by decide +kernel
theorem dL_law__2805 : decode cL_law_ 2805 = .ok (.ifCond .ne 15, 3) := by decide +kernel
theorem dL_law__2808 : decode cL_law_ 2808 = .ok (.aload_n 3, 1) := by decide +kernel
theorem dL_law__2809 : decode cL_law_ 2809 = .ok (.iconst 0, 1) := by decide +kernel
theorem dL_law__2810 : decode cL_law_ 2810 = .ok (.laload, 1) := by decide +kernel
theorem dL_law__2811 : decode cL_law_ 2811 = .ok (.iload 6, 2) := by decide +kernel
theorem dL_law__2813 : decode cL_law_ 2813 = .ok (.i2l, 1) := by decide +kernel
theorem dL_law__2814 : decode cL_law_ 2814 = .ok (.lcmp, 1) := by decide +kernel
theorem dL_law__2815 : decode cL_law_ 2815 = .ok (.ifCond .eq 5, 3) := by decide +kernel
theorem dL_law__2818 : decode cL_law_ 2818 = .ok (.iconst 0, 1) := by decide +kernel
theorem dL_law__2819 : decode cL_law_ 2819 = .ok (.ireturn, 1) := by decide +kernel
theorem dL_law__2820 : decode cL_law_ 2820 = .ok (.goto 407, 3) := by decide +kernel
theorem dL_law__2823 : decode cL_law_ 2823 = .ok (.aload_n 1, 1) := by decide +kernel
theorem dL_law__2824 : decode cL_law_ 2824 = .ok (.aload_n 0, 1) := by decide +kernel
theorem dL_law__2825 : decode cL_law_ 2825 = .ok (.iload 4, 2) := by decide +kernel
theorem dL_law__2827 : decode cL_law_ 2827 = .ok (.iconst 1, 1) := by decide +kernel
theorem dL_law__2828 : decode cL_law_ 2828 = .ok (.iadd, 1) := by decide +kernel
theorem dL_law__2829 : decode cL_law_ 2829 = .ok (.iaload, 1) := by decide +kernel
theorem dL_law__2830 : decode cL_law_ 2830 = .ok (.aload_n 3, 1) := by decide +kernel
theorem dL_law__2831 : decode cL_law_ 2831 = .ok (.invokestatic 256, 3) := by decide +kernel
theorem dL_law__2834 : decode cL_law_ 2834 = .ok (.istore 5, 2) := by decide +kernel
theorem dL_law__2836 : decode cL_law_ 2836 = .ok (.aload_n 2, 1) := by decide +kernel
theorem dL_law__2837 : decode cL_law_ 2837 = .ok (.aload_n 0, 1) := by decide +kernel
theorem dL_law__2838 : decode cL_law_ 2838 = .ok (.iload 4, 2) := by decide +kernel
theorem dL_law__2840 : decode cL_law_ 2840 = .ok (.iconst 1, 1) := by decide +kernel
theorem dL_law__2841 : decode cL_law_ 2841 = .ok (.iadd, 1) := by decide +kernel
theorem dL_law__2842 : decode cL_law_ 2842 = .ok (.iaload, 1) := by decide +kernel
theorem dL_law__2843 : decode cL_law_ 2843 = .ok (.invokevirtual 258, 3) := by decide +kernel
theorem dL_law__2846 : decode cL_law_ 2846 = .ok (.istore 6, 2) := by decide +kernel
theorem dL_law__2848 : decode cL_law_ 2848 = .ok (.aload_n 2, 1) := by decide +kernel
theorem dL_law__2849 : decode cL_law_ 2849 = .ok (.invokevirtual 149, 3) := by decide +kernel
theorem dL_law__2852 : decode cL_law_ 2852 = .ok (.iload 5, 2) := by decide +kernel
theorem dL_law__2854 : decode cL_law_ 2854 = .ok (.if_icmp .eq 5, 3) := by decide +kernel
theorem dL_law__2857 : decode cL_law_ 2857 = .ok (.iconst 0, 1) := by decide +kernel
theorem dL_law__2858 : decode cL_law_ 2858 = .ok (.ireturn, 1) := by decide +kernel
theorem dL_law__2859 : decode cL_law_ 2859 = .ok (.iload 5, 2) := by decide +kernel
theorem dL_law__2861 : decode cL_law_ 2861 = .ok (.ifCond .ne 15, 3) := by decide +kernel
theorem dL_law__2864 : decode cL_law_ 2864 = .ok (.aload_n 3, 1) := by decide +kernel
theorem dL_law__2865 : decode cL_law_ 2865 = .ok (.iconst 0, 1) := by decide +kernel
theorem dL_law__2866 : decode cL_law_ 2866 = .ok (.laload, 1) := by decide +kernel
theorem dL_law__2867 : decode cL_law_ 2867 = .ok (.iload 6, 2) := by decide +kernel
theorem dL_law__2869 : decode cL_law_ 2869 = .ok (.i2l, 1) := by decide +kernel
theorem dL_law__2870 : decode cL_law_ 2870 = .ok (.lcmp, 1) := by decide +kernel
theorem dL_law__2871 : decode cL_law_ 2871 = .ok (.ifCond .eq 5, 3) := by decide +kernel
theorem dL_law__2874 : decode cL_law_ 2874 = .ok (.iconst 0, 1) := by decide +kernel
theorem dL_law__2875 : decode cL_law_ 2875 = .ok (.ireturn, 1) := by decide +kernel
theorem dL_law__2876 : decode cL_law_ 2876 = .ok (.goto 351, 3) := by decide +kernel
theorem dL_law__2879 : decode cL_law_ 2879 = .ok (.aload_n 1, 1) := by decide +kernel
theorem dL_law__2880 : decode cL_law_ 2880 = .ok (.aload_n 0, 1) := by decide +kernel
theorem dL_law__2881 : decode cL_law_ 2881 = .ok (.iload 4, 2) := by decide +kernel
theorem dL_law__2883 : decode cL_law_ 2883 = .ok (.iconst 1, 1) := by decide +kernel
theorem dL_law__2884 : decode cL_law_ 2884 = .ok (.iadd, 1) := by decide +kernel
theorem dL_law__2885 : decode cL_law_ 2885 = .ok (.iaload, 1) := by decide +kernel
theorem dL_law__2886 : decode cL_law_ 2886 = .ok (.aload_n 3, 1) := by decide +kernel
theorem dL_law__2887 : decode cL_law_ 2887 = .ok (.invokestatic 259, 3) := by decide +kernel
theorem dL_law__2890 : decode cL_law_ 2890 = .ok (.istore 5, 2) := by decide +kernel
theorem dL_law__2892 : decode cL_law_ 2892 = .ok (.aload_n 2, 1) := by decide +kernel
theorem dL_law__2893 : decode cL_law_ 2893 = .ok (.aload_n 0, 1) := by decide +kernel
theorem dL_law__2894 : decode cL_law_ 2894 = .ok (.iload 4, 2) := by decide +kernel
theorem dL_law__2896 : decode cL_law_ 2896 = .ok (.iconst 1, 1) := by decide +kernel
theorem dL_law__2897 : decode cL_law_ 2897 = .ok (.iadd, 1) := by decide +kernel
theorem dL_law__2898 : decode cL_law_ 2898 = .ok (.iaload, 1) := by decide +kernel
theorem dL_law__2899 : decode cL_law_ 2899 = .ok (.invokevirtual 261, 3) := by decide +kernel
theorem dL_law__2902 : decode cL_law_ 2902 = .ok (.lstore 6, 2) := by decide +kernel
theorem dL_law__2904 : decode cL_law_ 2904 = .ok (.aload_n 2, 1) := by decide +kernel
theorem dL_law__2905 : decode cL_law_ 2905 = .ok (.invokevirtual 149, 3) := by decide +kernel
theorem dL_law__2908 : decode cL_law_ 2908 = .ok (.iload 5, 2) := by decide +kernel
theorem dL_law__2910 : decode cL_law_ 2910 = .ok (.if_icmp .eq 5, 3) := by decide +kernel
theorem dL_law__2913 : decode cL_law_ 2913 = .ok (.iconst 0, 1) := by decide +kernel
theorem dL_law__2914 : decode cL_law_ 2914 = .ok (.ireturn, 1) := by decide +kernel
theorem dL_law__2915 : decode cL_law_ 2915 = .ok (.iload 5, 2) := by decide +kernel
theorem dL_law__2917 : decode cL_law_ 2917 = .ok (.ifCond .ne 14, 3) := by decide +kernel
theorem dL_law__2920 : decode cL_law_ 2920 = .ok (.aload_n 3, 1) := by decide +kernel
theorem dL_law__2921 : decode cL_law_ 2921 = .ok (.iconst 0, 1) := by decide +kernel
theorem dL_law__2922 : decode cL_law_ 2922 = .ok (.laload, 1) := by decide +kernel
theorem dL_law__2923 : decode cL_law_ 2923 = .ok (.lload 6, 2) := by decide +kernel
theorem dL_law__2925 : decode cL_law_ 2925 = .ok (.lcmp, 1) := by decide +kernel
theorem dL_law__2926 : decode cL_law_ 2926 = .ok (.ifCond .eq 5, 3) := by decide +kernel
theorem dL_law__2929 : decode cL_law_ 2929 = .ok (.iconst 0, 1) := by decide +kernel
theorem dL_law__2930 : decode cL_law_ 2930 = .ok (.ireturn, 1) := by decide +kernel
theorem dL_law__2931 : decode cL_law_ 2931 = .ok (.goto 296, 3) := by decide +kernel
theorem dL_law__2934 : decode cL_law_ 2934 = .ok (.aload_n 1, 1) := by decide +kernel
theorem dL_law__2935 : decode cL_law_ 2935 = .ok (.invokevirtual 262, 3) := by decide +kernel
theorem dL_law__2938 : decode cL_law_ 2938 = .ok (.aload_n 2, 1) := by decide +kernel
theorem dL_law__2939 : decode cL_law_ 2939 = .ok (.invokevirtual 265, 3) := by decide +kernel
theorem dL_law__2942 : decode cL_law_ 2942 = .ok (.if_icmp .eq 285, 3) := by decide +kernel
theorem dL_law__2945 : decode cL_law_ 2945 = .ok (.iconst 0, 1) := by decide +kernel
theorem dL_law__2946 : decode cL_law_ 2946 = .ok (.ireturn, 1) := by decide +kernel
theorem dL_law__2947 : decode cL_law_ 2947 = .ok (.aload_n 1, 1) := by decide +kernel
theorem dL_law__2948 : decode cL_law_ 2948 = .ok (.aload_n 0, 1) := by decide +kernel
theorem dL_law__2949 : decode cL_law_ 2949 = .ok (.iload 4, 2) := by decide +kernel
theorem dL_law__2951 : decode cL_law_ 2951 = .ok (.iconst 1, 1) := by decide +kernel
theorem dL_law__2952 : decode cL_law_ 2952 = .ok (.iadd, 1) := by decide +kernel
theorem dL_law__2953 : decode cL_law_ 2953 = .ok (.iaload, 1) := by decide +kernel
theorem dL_law__2954 : decode cL_law_ 2954 = .ok (.aload_n 3, 1) := by decide +kernel
theorem dL_law__2955 : decode cL_law_ 2955 = .ok (.invokestatic 266, 3) := by decide +kernel
theorem dL_law__2958 : decode cL_law_ 2958 = .ok (.istore 5, 2) := by decide +kernel
theorem dL_law__2960 : decode cL_law_ 2960 = .ok (.aload_n 2, 1) := by decide +kernel
theorem dL_law__2961 : decode cL_law_ 2961 = .ok (.aload_n 0, 1) := by decide +kernel
theorem dL_law__2962 : decode cL_law_ 2962 = .ok (.iload 4, 2) := by decide +kernel
theorem dL_law__2964 : decode cL_law_ 2964 = .ok (.iconst 1, 1) := by decide +kernel
theorem dL_law__2965 : decode cL_law_ 2965 = .ok (.iadd, 1) := by decide +kernel
theorem dL_law__2966 : decode cL_law_ 2966 = .ok (.iaload, 1) := by decide +kernel
theorem dL_law__2967 : decode cL_law_ 2967 = .ok (.invokevirtual 268, 3) := by decide +kernel
theorem dL_law__2970 : decode cL_law_ 2970 = .ok (.istore 6, 2) := by decide +kernel
theorem dL_law__2972 : decode cL_law_ 2972 = .ok (.aload_n 2, 1) := by decide +kernel
theorem dL_law__2973 : decode cL_law_ 2973 = .ok (.invokevirtual 149, 3) := by decide +kernel
theorem dL_law__2976 : decode cL_law_ 2976 = .ok (.iload 5, 2) := by decide +kernel
theorem dL_law__2978 : decode cL_law_ 2978 = .ok (.if_icmp .eq 5, 3) := by decide +kernel
theorem dL_law__2981 : decode cL_law_ 2981 = .ok (.iconst 0, 1) := by decide +kernel
theorem dL_law__2982 : decode cL_law_ 2982 = .ok (.ireturn, 1) := by decide +kernel
theorem dL_law__2983 : decode cL_law_ 2983 = .ok (.iload 5, 2) := by decide +kernel
theorem dL_law__2985 : decode cL_law_ 2985 = .ok (.ifCond .ne 15, 3) := by decide +kernel
theorem dL_law__2988 : decode cL_law_ 2988 = .ok (.aload_n 3, 1) := by decide +kernel
theorem dL_law__2989 : decode cL_law_ 2989 = .ok (.iconst 0, 1) := by decide +kernel
theorem dL_law__2990 : decode cL_law_ 2990 = .ok (.laload, 1) := by decide +kernel
theorem dL_law__2991 : decode cL_law_ 2991 = .ok (.iload 6, 2) := by decide +kernel
theorem dL_law__2993 : decode cL_law_ 2993 = .ok (.i2l, 1) := by decide +kernel
theorem dL_law__2994 : decode cL_law_ 2994 = .ok (.lcmp, 1) := by decide +kernel
theorem dL_law__2995 : decode cL_law_ 2995 = .ok (.ifCond .eq 5, 3) := by decide +kernel
theorem dL_law__2998 : decode cL_law_ 2998 = .ok (.iconst 0, 1) := by decide +kernel
theorem dL_law__2999 : decode cL_law_ 2999 = .ok (.ireturn, 1) := by decide +kernel
theorem dL_law__3000 : decode cL_law_ 3000 = .ok (.goto 227, 3) := by decide +kernel
theorem dL_law__3003 : decode cL_law_ 3003 = .ok (.aload_n 1, 1) := by decide +kernel
theorem dL_law__3004 : decode cL_law_ 3004 = .ok (.invokevirtual 269, 3) := by decide +kernel
theorem dL_law__3007 : decode cL_law_ 3007 = .ok (.aload_n 2, 1) := by decide +kernel
theorem dL_law__3008 : decode cL_law_ 3008 = .ok (.invokevirtual 272, 3) := by decide +kernel
theorem dL_law__3011 : decode cL_law_ 3011 = .ok (.if_icmp .eq 216, 3) := by decide +kernel
theorem dL_law__3014 : decode cL_law_ 3014 = .ok (.iconst 0, 1) := by decide +kernel
theorem dL_law__3015 : decode cL_law_ 3015 = .ok (.ireturn, 1) := by decide +kernel
theorem dL_law__3016 : decode cL_law_ 3016 = .ok (.aload_n 1, 1) := by decide +kernel
theorem dL_law__3017 : decode cL_law_ 3017 = .ok (.aload_n 0, 1) := by decide +kernel
theorem dL_law__3018 : decode cL_law_ 3018 = .ok (.iload 4, 2) := by decide +kernel
theorem dL_law__3020 : decode cL_law_ 3020 = .ok (.iconst 1, 1) := by decide +kernel
theorem dL_law__3021 : decode cL_law_ 3021 = .ok (.iadd, 1) := by decide +kernel
theorem dL_law__3022 : decode cL_law_ 3022 = .ok (.iaload, 1) := by decide +kernel
theorem dL_law__3023 : decode cL_law_ 3023 = .ok (.aload_n 0, 1) := by decide +kernel
theorem dL_law__3024 : decode cL_law_ 3024 = .ok (.iload 4, 2) := by decide +kernel
theorem dL_law__3026 : decode cL_law_ 3026 = .ok (.iconst 2, 1) := by decide +kernel
theorem dL_law__3027 : decode cL_law_ 3027 = .ok (.iadd, 1) := by decide +kernel
theorem dL_law__3028 : decode cL_law_ 3028 = .ok (.iaload, 1) := by decide +kernel
theorem dL_law__3029 : decode cL_law_ 3029 = .ok (.aload_n 3, 1) := by decide +kernel
theorem dL_law__3030 : decode cL_law_ 3030 = .ok (.invokestatic 273, 3) := by decide +kernel
theorem dL_law__3033 : decode cL_law_ 3033 = .ok (.istore 5, 2) := by decide +kernel
theorem dL_law__3035 : decode cL_law_ 3035 = .ok (.aload_n 2, 1) := by decide +kernel
theorem dL_law__3036 : decode cL_law_ 3036 = .ok (.aload_n 0, 1) := by decide +kernel
theorem dL_law__3037 : decode cL_law_ 3037 = .ok (.iload 4, 2) := by decide +kernel
theorem dL_law__3039 : decode cL_law_ 3039 = .ok (.iconst 1, 1) := by decide +kernel
theorem dL_law__3040 : decode cL_law_ 3040 = .ok (.iadd, 1) := by decide +kernel
theorem dL_law__3041 : decode cL_law_ 3041 = .ok (.iaload, 1) := by decide +kernel
theorem dL_law__3042 : decode cL_law_ 3042 = .ok (.aload_n 0, 1) := by decide +kernel
theorem dL_law__3043 : decode cL_law_ 3043 = .ok (.iload 4, 2) := by decide +kernel
theorem dL_law__3045 : decode cL_law_ 3045 = .ok (.iconst 2, 1) := by decide +kernel
theorem dL_law__3046 : decode cL_law_ 3046 = .ok (.iadd, 1) := by decide +kernel
theorem dL_law__3047 : decode cL_law_ 3047 = .ok (.iaload, 1) := by decide +kernel
theorem dL_law__3048 : decode cL_law_ 3048 = .ok (.invokevirtual 275, 3) := by decide +kernel
theorem dL_law__3051 : decode cL_law_ 3051 = .ok (.istore 6, 2) := by decide +kernel
theorem dL_law__3053 : decode cL_law_ 3053 = .ok (.aload_n 2, 1) := by decide +kernel
theorem dL_law__3054 : decode cL_law_ 3054 = .ok (.invokevirtual 149, 3) := by decide +kernel
theorem dL_law__3057 : decode cL_law_ 3057 = .ok (.iload 5, 2) := by decide +kernel
theorem dL_law__3059 : decode cL_law_ 3059 = .ok (.if_icmp .eq 5, 3) := by decide +kernel
theorem dL_law__3062 : decode cL_law_ 3062 = .ok (.iconst 0, 1) := by decide +kernel
theorem dL_law__3063 : decode cL_law_ 3063 = .ok (.ireturn, 1) := by decide +kernel
theorem dL_law__3064 : decode cL_law_ 3064 = .ok (.iload 5, 2) := by decide +kernel
theorem dL_law__3066 : decode cL_law_ 3066 = .ok (.ifCond .ne 15, 3) := by decide +kernel
theorem dL_law__3069 : decode cL_law_ 3069 = .ok (.aload_n 3, 1) := by decide +kernel
theorem dL_law__3070 : decode cL_law_ 3070 = .ok (.iconst 0, 1) := by decide +kernel
theorem dL_law__3071 : decode cL_law_ 3071 = .ok (.laload, 1) := by decide +kernel
theorem dL_law__3072 : decode cL_law_ 3072 = .ok (.iload 6, 2) := by decide +kernel
theorem dL_law__3074 : decode cL_law_ 3074 = .ok (.i2l, 1) := by decide +kernel
theorem dL_law__3075 : decode cL_law_ 3075 = .ok (.lcmp, 1) := by decide +kernel
theorem dL_law__3076 : decode cL_law_ 3076 = .ok (.ifCond .eq 5, 3) := by decide +kernel
theorem dL_law__3079 : decode cL_law_ 3079 = .ok (.iconst 0, 1) := by decide +kernel
theorem dL_law__3080 : decode cL_law_ 3080 = .ok (.ireturn, 1) := by decide +kernel
theorem dL_law__3081 : decode cL_law_ 3081 = .ok (.goto 146, 3) := by decide +kernel
theorem dL_law__3084 : decode cL_law_ 3084 = .ok (.aload_n 1, 1) := by decide +kernel
theorem dL_law__3085 : decode cL_law_ 3085 = .ok (.aload_n 0, 1) := by decide +kernel
theorem dL_law__3086 : decode cL_law_ 3086 = .ok (.iload 4, 2) := by decide +kernel
theorem dL_law__3088 : decode cL_law_ 3088 = .ok (.iconst 1, 1) := by decide +kernel
theorem dL_law__3089 : decode cL_law_ 3089 = .ok (.iadd, 1) := by decide +kernel
theorem dL_law__3090 : decode cL_law_ 3090 = .ok (.iaload, 1) := by decide +kernel
theorem dL_law__3091 : decode cL_law_ 3091 = .ok (.aload_n 0, 1) := by decide +kernel
theorem dL_law__3092 : decode cL_law_ 3092 = .ok (.iload 4, 2) := by decide +kernel
theorem dL_law__3094 : decode cL_law_ 3094 = .ok (.iconst 2, 1) := by decide +kernel
theorem dL_law__3095 : decode cL_law_ 3095 = .ok (.iadd, 1) := by decide +kernel
theorem dL_law__3096 : decode cL_law_ 3096 = .ok (.iaload, 1) := by decide +kernel
theorem dL_law__3097 : decode cL_law_ 3097 = .ok (.aload_n 0, 1) := by decide +kernel
theorem dL_law__3098 : decode cL_law_ 3098 = .ok (.iload 4, 2) := by decide +kernel
theorem dL_law__3100 : decode cL_law_ 3100 = .ok (.iconst 3, 1) := by decide +kernel
theorem dL_law__3101 : decode cL_law_ 3101 = .ok (.iadd, 1) := by decide +kernel
theorem dL_law__3102 : decode cL_law_ 3102 = .ok (.iaload, 1) := by decide +kernel
theorem dL_law__3103 : decode cL_law_ 3103 = .ok (.aload_n 0, 1) := by decide +kernel
theorem dL_law__3104 : decode cL_law_ 3104 = .ok (.iload 4, 2) := by decide +kernel
theorem dL_law__3106 : decode cL_law_ 3106 = .ok (.iconst 4, 1) := by decide +kernel
theorem dL_law__3107 : decode cL_law_ 3107 = .ok (.iadd, 1) := by decide +kernel
theorem dL_law__3108 : decode cL_law_ 3108 = .ok (.iaload, 1) := by decide +kernel
theorem dL_law__3109 : decode cL_law_ 3109 = .ok (.aload_n 3, 1) := by decide +kernel
theorem dL_law__3110 : decode cL_law_ 3110 = .ok (.invokestatic 276, 3) := by decide +kernel
theorem dL_law__3113 : decode cL_law_ 3113 = .ok (.istore 5, 2) := by decide +kernel
theorem dL_law__3115 : decode cL_law_ 3115 = .ok (.aload_n 2, 1) := by decide +kernel
theorem dL_law__3116 : decode cL_law_ 3116 = .ok (.aload_n 0, 1) := by decide +kernel
theorem dL_law__3117 : decode cL_law_ 3117 = .ok (.iload 4, 2) := by decide +kernel
theorem dL_law__3119 : decode cL_law_ 3119 = .ok (.iconst 1, 1) := by decide +kernel
theorem dL_law__3120 : decode cL_law_ 3120 = .ok (.iadd, 1) := by decide +kernel
theorem dL_law__3121 : decode cL_law_ 3121 = .ok (.iaload, 1) := by decide +kernel
theorem dL_law__3122 : decode cL_law_ 3122 = .ok (.aload_n 0, 1) := by decide +kernel
theorem dL_law__3123 : decode cL_law_ 3123 = .ok (.iload 4, 2) := by decide +kernel
theorem dL_law__3125 : decode cL_law_ 3125 = .ok (.iconst 2, 1) := by decide +kernel
theorem dL_law__3126 : decode cL_law_ 3126 = .ok (.iadd, 1) := by decide +kernel
theorem dL_law__3127 : decode cL_law_ 3127 = .ok (.iaload, 1) := by decide +kernel
theorem dL_law__3128 : decode cL_law_ 3128 = .ok (.aload_n 0, 1) := by decide +kernel
theorem dL_law__3129 : decode cL_law_ 3129 = .ok (.iload 4, 2) := by decide +kernel
theorem dL_law__3131 : decode cL_law_ 3131 = .ok (.iconst 3, 1) := by decide +kernel
theorem dL_law__3132 : decode cL_law_ 3132 = .ok (.iadd, 1) := by decide +kernel
theorem dL_law__3133 : decode cL_law_ 3133 = .ok (.iaload, 1) := by decide +kernel
theorem dL_law__3134 : decode cL_law_ 3134 = .ok (.aload_n 0, 1) := by decide +kernel
theorem dL_law__3135 : decode cL_law_ 3135 = .ok (.iload 4, 2) := by decide +kernel
theorem dL_law__3137 : decode cL_law_ 3137 = .ok (.iconst 4, 1) := by decide +kernel
theorem dL_law__3138 : decode cL_law_ 3138 = .ok (.iadd, 1) := by decide +kernel
theorem dL_law__3139 : decode cL_law_ 3139 = .ok (.iaload, 1) := by decide +kernel
theorem dL_law__3140 : decode cL_law_ 3140 = .ok (.invokevirtual 278, 3) := by decide +kernel
theorem dL_law__3143 : decode cL_law_ 3143 = .ok (.istore 6, 2) := by decide +kernel
theorem dL_law__3145 : decode cL_law_ 3145 = .ok (.aload_n 2, 1) := by decide +kernel
theorem dL_law__3146 : decode cL_law_ 3146 = .ok (.invokevirtual 149, 3) := by decide +kernel
theorem dL_law__3149 : decode cL_law_ 3149 = .ok (.iload 5, 2) := by decide +kernel
theorem dL_law__3151 : decode cL_law_ 3151 = .ok (.if_icmp .eq 5, 3) := by decide +kernel
theorem dL_law__3154 : decode cL_law_ 3154 = .ok (.iconst 0, 1) := by decide +kernel
theorem dL_law__3155 : decode cL_law_ 3155 = .ok (.ireturn, 1) := by decide +kernel
theorem dL_law__3156 : decode cL_law_ 3156 = .ok (.iload 5, 2) := by decide +kernel
theorem dL_law__3158 : decode cL_law_ 3158 = .ok (.ifCond .ne 15, 3) := by decide +kernel
theorem dL_law__3161 : decode cL_law_ 3161 = .ok (.aload_n 3, 1) := by decide +kernel
theorem dL_law__3162 : decode cL_law_ 3162 = .ok (.iconst 0, 1) := by decide +kernel
theorem dL_law__3163 : decode cL_law_ 3163 = .ok (.laload, 1) := by decide +kernel
theorem dL_law__3164 : decode cL_law_ 3164 = .ok (.iload 6, 2) := by decide +kernel
theorem dL_law__3166 : decode cL_law_ 3166 = .ok (.i2l, 1) := by decide +kernel
theorem dL_law__3167 : decode cL_law_ 3167 = .ok (.lcmp, 1) := by decide +kernel
theorem dL_law__3168 : decode cL_law_ 3168 = .ok (.ifCond .eq 5, 3) := by decide +kernel
theorem dL_law__3171 : decode cL_law_ 3171 = .ok (.iconst 0, 1) := by decide +kernel
theorem dL_law__3172 : decode cL_law_ 3172 = .ok (.ireturn, 1) := by decide +kernel
theorem dL_law__3173 : decode cL_law_ 3173 = .ok (.goto 54, 3) := by decide +kernel
theorem dL_law__3176 : decode cL_law_ 3176 = .ok (.aload_n 1, 1) := by decide +kernel
theorem dL_law__3177 : decode cL_law_ 3177 = .ok (.invokevirtual 279, 3) := by decide +kernel
theorem dL_law__3180 : decode cL_law_ 3180 = .ok (.aload_n 2, 1) := by decide +kernel
theorem dL_law__3181 : decode cL_law_ 3181 = .ok (.invokevirtual 282, 3) := by decide +kernel
theorem dL_law__3184 : decode cL_law_ 3184 = .ok (.if_icmp .eq 43, 3) := by decide +kernel
theorem dL_law__3187 : decode cL_law_ 3187 = .ok (.iconst 0, 1) := by decide +kernel
theorem dL_law__3188 : decode cL_law_ 3188 = .ok (.ireturn, 1) := by decide +kernel
theorem dL_law__3189 : decode cL_law_ 3189 = .ok (.aload_n 1, 1) := by decide +kernel
theorem dL_law__3190 : decode cL_law_ 3190 = .ok (.invokevirtual 283, 3) := by decide +kernel
theorem dL_law__3193 : decode cL_law_ 3193 = .ok (.aload_n 2, 1) := by decide +kernel
theorem dL_law__3194 : decode cL_law_ 3194 = .ok (.invokevirtual 286, 3) := by decide +kernel
theorem dL_law__3197 : decode cL_law_ 3197 = .ok (.if_icmp .eq 30, 3) := by decide +kernel
theorem dL_law__3200 : decode cL_law_ 3200 = .ok (.iconst 0, 1) := by decide +kernel
theorem dL_law__3201 : decode cL_law_ 3201 = .ok (.ireturn, 1) := by decide +kernel
theorem dL_law__3202 : decode cL_law_ 3202 = .ok (.aload_n 1, 1) := by decide +kernel
theorem dL_law__3203 : decode cL_law_ 3203 = .ok (.aload_n 0, 1) := by decide +kernel
theorem dL_law__3204 : decode cL_law_ 3204 = .ok (.iload 4, 2) := by decide +kernel
theorem dL_law__3206 : decode cL_law_ 3206 = .ok (.iconst 1, 1) := by decide +kernel
theorem dL_law__3207 : decode cL_law_ 3207 = .ok (.iadd, 1) := by decide +kernel
theorem dL_law__3208 : decode cL_law_ 3208 = .ok (.iaload, 1) := by decide +kernel
theorem dL_law__3209 : decode cL_law_ 3209 = .ok (.invokevirtual 287, 3) := by decide +kernel
theorem dL_law__3212 : decode cL_law_ 3212 = .ok (.aload_n 2, 1) := by decide +kernel
theorem dL_law__3213 : decode cL_law_ 3213 = .ok (.aload_n 0, 1) := by decide +kernel
theorem dL_law__3214 : decode cL_law_ 3214 = .ok (.iload 4, 2) := by decide +kernel
theorem dL_law__3216 : decode cL_law_ 3216 = .ok (.iconst 1, 1) := by decide +kernel
theorem dL_law__3217 : decode cL_law_ 3217 = .ok (.iadd, 1) := by decide +kernel
theorem dL_law__3218 : decode cL_law_ 3218 = .ok (.iaload, 1) := by decide +kernel
theorem dL_law__3219 : decode cL_law_ 3219 = .ok (.invokevirtual 290, 3) := by decide +kernel
theorem dL_law__3222 : decode cL_law_ 3222 = .ok (.if_icmp .eq 5, 3) := by decide +kernel
theorem dL_law__3225 : decode cL_law_ 3225 = .ok (.iconst 0, 1) := by decide +kernel
theorem dL_law__3226 : decode cL_law_ 3226 = .ok (.ireturn, 1) := by decide +kernel
theorem dL_law__3227 : decode cL_law_ 3227 = .ok (.iinc 4 7, 3) := by decide +kernel
theorem dL_law__3230 : decode cL_law_ 3230 = .ok (.goto (-3207), 3) := by decide +kernel
theorem dL_law__3233 : decode cL_law_ 3233 = .ok (.iconst 1, 1) := by decide +kernel
theorem dL_law__3234 : decode cL_law_ 3234 = .ok (.ireturn, 1) := by decide +kernel
