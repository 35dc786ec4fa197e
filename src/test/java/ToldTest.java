/** Promises 14 to 21: captainOf, printed, level, uses, clash, hours, count and made. */
final class ToldTest {
    private static final Check check = new Check("ToldTest");

    private static final int[] OUTSIDE = {Integer.MIN_VALUE, -2, -1, Integer.MAX_VALUE};

    public static void main(String[] args) {
        captainOf();
        printed();
        printedWhereTheLevelIsTheDraft();
        printedThreeHoursLater();
        timetablesThatEnd();
        noCrossingsAndNoClashes();
        levels();
        uses();
        clashes();
        hours();
        count();
        made();
        madeAllAndNone();
        nothingToldChangesAnything();
        check.end();
    }

    private static void captainOf() {
        CaptainTides x = new CaptainTides();
        for (int far : OUTSIDE) {
            check.due("captainOf " + far + " 0", x.captainOf(far, 0), -1);
            check.due("captainOf 0 " + far, x.captainOf(0, far), -2);
        }
        check.due("captainOf 3 0", x.captainOf(3, 0), -1);
        check.due("captainOf 3 11", x.captainOf(3, 11), -1);
        check.due("captainOf 2 11", x.captainOf(2, 11), -2);
        check.due("captainOf 2 10", x.captainOf(2, 10), 0);
    }

    private static void dueTimetable(CaptainTides x, int captain, int home, int... hours) {
        check.due("crossings of " + captain, x.captainOf(captain, 4), hours.length);
        for (int i = 0; i < hours.length; i++) {
            check.due("hour of " + captain + " " + i, x.printed(captain, i, 0), hours[i]);
            check.due("pier of " + captain + " " + i, x.printed(captain, i, 1), (home + i) % 2);
        }
        check.due("beyond " + captain, x.printed(captain, hours.length, 0), -1);
    }

    private static void printed() {
        CaptainTides x = new CaptainTides();
        dueTimetable(x, 0, 0, 8, 11, 14, 20);
        dueTimetable(x, 1, 1, 6, 9, 12, 16, 19);
        dueTimetable(x, 2, 0, 6, 12, 15, 18);
        for (int far : OUTSIDE) {
            check.due("printed " + far, x.printed(far, 0, 0), -1);
            check.due("printed 0 " + far, x.printed(0, far, 0), -1);
            check.due("printed 0 0 " + far, x.printed(0, 0, far), -2);
        }
        check.due("printed 3", x.printed(3, 0, 0), -1);
        check.due("printed 0 0 2", x.printed(0, 0, 2), -2);
        check.due("printed 3 0 2", x.printed(3, 0, 2), -1);
        check.due("printed 0 4 2", x.printed(0, 4, 2), -1);
    }

    /** By the phase 0 the level falls to 3 in the hour 3, and rises to 3 in the hour 9. */
    private static void printedWhereTheLevelIsTheDraft() {
        CaptainTides x = Check.write(new CaptainTides(), "0:p0d3f3");
        x.captains();
        check.due("just the draft, falling", x.printed(0, 0, 0), 3);
        check.due("just the draft, rising", x.printed(0, 1, 0), 9);
        x.captain(0, 2, 4);
        check.due("less than the draft from 4", x.printed(0, 0, 0), 9);
        x.captain(0, 2, 3);
        x.captain(0, 1, 4);
        check.due("one more draft than level", x.printed(0, 0, 0), 10);
    }

    /** With water for the draft 4 in five hours on end, from 10 to 14: 10 and 13 are printed, and 13 from 11 on. */
    private static void printedThreeHoursLater() {
        CaptainTides x = Check.write(new CaptainTides(), "0:p0d4f9");
        x.captains();
        dueTimetable(x, 0, 0, 10, 13);
        x.captain(0, 2, 11);
        dueTimetable(x, 0, 0, 11, 14);
        x.captain(0, 2, 12);
        dueTimetable(x, 0, 0, 12);
        x.captain(0, 2, 14);
        dueTimetable(x, 0, 0, 14);
        x.captain(0, 2, 15);
        dueTimetable(x, 0, 0);
    }

    private static void noCrossingsAndNoClashes() {
        CaptainTides x = Check.write(new CaptainTides(), "0:f22;1:f23;2:f23");
        x.captains();
        check.due("no clashes", x.count(3), 0);
        check.due("no crossings", x.count(4), 0);
        for (int number = -1; number < 2; number++) {
            for (int what = -1; what < 4; what++) {
                check.due("clash of none " + number + " " + what, x.clash(number, what), -1);
                check.due("printed of none " + number + " " + what, x.printed(0, number, what), -1);
            }
        }
        for (int hour = 0; hour < 24; hour++) {
            check.due("uses of none", x.uses(0, hour) + x.uses(1, hour), 0);
        }
        Check.write(x, "0:p3d6f21h0;1:p3d6f21h1;2:f23");
        x.captains();
        check.due("two timetables without a clash", x.count(3), 0);
        check.due("clash of two timetables", x.clash(0, 0), -1);
        x.captain(1, 3, 0);
        check.due("the departure and the arrival clash", x.count(3), 2);
        int[][] due = {{21, 0, 3}, {23, 1, 3}};
        for (int i = 0; i < 2; i++) {
            for (int what = 0; what < 3; what++) {
                check.due("clash " + i + " " + what, x.clash(i, what), due[i][what]);
            }
        }
        check.due("one clash too many", x.clash(2, 0), -1);
        check.due("one clash too many, and no such what", x.clash(2, 3), -1);
        check.due("the last clash, and no such what", x.clash(1, 3), -2);
        check.due("the use between departure and arrival", x.uses(0, 22) + x.uses(1, 22), 0);
    }

    private static void timetablesThatEnd() {
        CaptainTides x = Check.write(new CaptainTides(), "0:p1d1f0;1:p0d6f13;2:f21p3d6");
        x.captains();
        // With the draft 1 the captain 0 waits at 5 and 17 alone: eight crossings, each third hour.
        dueTimetable(x, 0, 0, 0, 3, 6, 9, 12, 15, 18, 21);
        dueTimetable(x, 1, 1);
        dueTimetable(x, 2, 0, 21);
        x.captain(2, 2, 22);
        dueTimetable(x, 2, 0);
        x.captain(2, 2, 20);
        dueTimetable(x, 2, 0, 21);
        x.captain(2, 0, 2);
        // There is water at 10 and 22, and 22 is too late.
        dueTimetable(x, 2, 0);
        x.captain(2, 2, 10);
        dueTimetable(x, 2, 0, 10);
        x.captain(0, 2, 23);
        dueTimetable(x, 0, 0);
        x.captain(0, 2, 16);
        x.captain(0, 3, 1);
        dueTimetable(x, 0, 1, 16, 19);
    }

    private static void levels() {
        int[] ofPhase0 = {6, 5, 4, 3, 2, 1, 0, 1, 2, 3, 4, 5};
        for (int phase = 0; phase < 12; phase++) {
            CaptainTides x = new CaptainTides();
            x.captain(0, 0, phase);
            x.captain(1, 0, 11 - phase);
            x.truth((phase + 5) % 12);
            for (int hour = 0; hour < 24; hour++) {
                for (int way = 0; way < 2; way++) {
                    String call = " in the hour " + hour + ", way " + way;
                    check.due("phase " + phase + call, x.level(0, hour, way), ofPhase0[(hour + phase) % 12]);
                    check.due("of 1" + call, x.level(1, hour, way), ofPhase0[(hour + 11 - phase) % 12]);
                    check.due("of 2" + call, x.level(2, hour, way), ofPhase0[(hour + 8) % 12]);
                    check.due("true" + call, x.level(3, hour, way), ofPhase0[(hour + phase + 5) % 12]);
                }
            }
        }
        CaptainTides x = new CaptainTides();
        for (int far : OUTSIDE) {
            check.due("level " + far, x.level(far, 0, 0), -1);
            check.due("level 0 " + far, x.level(0, far, 0), -1);
            check.due("level 0 0 " + far, x.level(0, 0, far), -2);
        }
        check.due("level 4", x.level(4, 0, 0), -1);
        check.due("level 3 24", x.level(3, 24, 1), -1);
        check.due("level 3 23 2", x.level(3, 23, 2), -2);
        check.due("level 4 24 2", x.level(4, 24, 2), -1);
        check.due("level 0 24 2", x.level(0, 24, 2), -1);
    }

    /** Rows of the hour, the pier and the captains as a set, for a new object. */
    private static final int[][] USES = {
        {6, 0, 4}, {6, 1, 2}, {8, 0, 3}, {8, 1, 4}, {9, 0, 2}, {10, 1, 1}, {11, 1, 3}, {12, 1, 6}, {13, 0, 1},
        {14, 0, 7}, {15, 0, 4}, {16, 0, 2}, {16, 1, 1}, {17, 1, 4}, {18, 1, 6}, {19, 1, 2}, {20, 0, 4}, {20, 1, 1},
        {21, 0, 2}, {22, 0, 1},
    };

    private static void uses() {
        CaptainTides x = new CaptainTides();
        int[][] due = new int[24][2];
        for (int[] use : USES) {
            due[use[0]][use[1]] = use[2];
        }
        for (int hour = 0; hour < 24; hour++) {
            for (int pier = 0; pier < 2; pier++) {
                check.due("uses " + pier + " " + hour, x.uses(pier, hour), due[hour][pier]);
            }
        }
        for (int far : OUTSIDE) {
            check.due("uses " + far, x.uses(far, 8), -1);
            check.due("uses 0 " + far, x.uses(0, far), -1);
        }
        check.due("uses 2", x.uses(2, 8), -1);
        check.due("uses 0 24", x.uses(0, 24), -1);
        x.captain(0, 0, 3);
        x.captain(0, 1, 6);
        x.captain(0, 2, 21);
        check.due("an arrival at 23", x.uses(1, 23), 1);
    }

    private static void clashes() {
        check.due("clash of a new object", new CaptainTides().clash(4, 0), 18);
        CaptainTides x = new CaptainTides();
        int[][] due = {{8, 0, 3}, {11, 1, 3}, {12, 1, 6}, {14, 0, 7}, {18, 1, 6}};
        check.due("clashes", x.count(3), due.length);
        for (int i = 0; i < due.length; i++) {
            for (int what = 0; what < 3; what++) {
                check.due("clash " + i + " " + what, x.clash(i, what), due[i][what]);
            }
        }
        check.due("clash 5", x.clash(5, 0), -1);
        check.due("clash 5 3", x.clash(5, 3), -1);
        check.due("clash 0 3", x.clash(0, 3), -2);
        for (int far : OUTSIDE) {
            check.due("clash " + far, x.clash(far, 0), -1);
            check.due("clash 0 " + far, x.clash(0, far), -2);
        }
        clashesOfOneHour();
    }

    /** With like timetables from both piers, every use at a pier has its own at the other one. */
    private static void clashesOfOneHour() {
        CaptainTides x = Check.write(new CaptainTides(), "0:p0d6f0h0;1:p0d6f0h0;2:f23d6");
        x.captains();
        check.due("clashes of 0 and 1", x.count(3), 4);
        Check.write(x, "2:p0d6f0h1");
        x.captains();
        check.due("the captain 2 is nowhere with another", x.count(3), 4);
        x.captain(2, 3, 0);
        check.due("clash told anew", x.clash(0, 2), 7);
        Check.write(x, "0:d1f0;1:d1f3;2:d1f0");
        x.captains();
        int clashes = x.count(3);
        for (int i = 1; i < clashes; i++) {
            int before = x.clash(i - 1, 0) * 2 + x.clash(i - 1, 1);
            check.isTrue("clashes in order", before < x.clash(i, 0) * 2 + x.clash(i, 1));
        }
    }

    private static void hours() {
        CaptainTides x = new CaptainTides();
        int shallow = 1 << 5 | 1 << 6 | 1 << 7 | 1 << 17 | 1 << 18 | 1 << 19;
        int all = (1 << 24) - 1;
        int shallowFor1 = 1 << 1 | 1 << 2 | 1 << 3 | 1 << 13 | 1 << 14 | 1 << 15;
        check.due("hours 0 0", x.hours(0, 0), all & ~shallow);
        check.due("hours 0 1", x.hours(0, 1), all & ~shallow);
        check.due("hours 0 2", x.hours(0, 2), 0);
        check.due("hours 1 0", x.hours(1, 0), all & ~shallowFor1);
        check.due("hours 1 1", x.hours(1, 1), all & ~shallow);
        check.due("hours 1 2", x.hours(1, 2), shallow | shallowFor1);
        x.truth(6);
        x.captain(0, 1, 6);
        check.due("hours 0 0 of 6", x.hours(0, 0), 1 | 1 << 12);
        check.due("hours 0 1 of 6", x.hours(0, 1), 1 << 6 | 1 << 18);
        check.due("hours 0 2 of 6", x.hours(0, 2), 1 | 1 << 12 | 1 << 6 | 1 << 18);
        for (int far : OUTSIDE) {
            check.due("hours " + far, x.hours(far, 0), -1);
            check.due("hours 0 " + far, x.hours(0, far), -2);
        }
        check.due("hours 3", x.hours(3, 3), -1);
        check.due("hours 2 3", x.hours(2, 3), -2);
    }

    private static void count() {
        CaptainTides x = Check.write(new CaptainTides(), "0:p1");
        x.sail(1);
        x.set(0, 0);
        x.set(1, 7);
        int[] due = {1, 1, 38044, x.count(3), x.count(4), 11, 2, 4, 12, 9, 3, 4, 0, 7};
        for (int what = 0; what < due.length; what++) {
            check.due("count " + what, x.count(what), due[what]);
        }
        check.due("count 14", x.count(14), -2);
        for (int far : OUTSIDE) {
            check.due("count " + far, x.count(far), -2);
        }
        // All believe in the phase 1 now, with water but in 4, 5, 6, 16, 17 and 18.
        dueTimetable(x, 0, 0, 7, 10, 13, 19);
        dueTimetable(x, 1, 1, 7, 10, 13, 19);
        dueTimetable(x, 2, 0, 7, 10, 13, 19);
        check.due("crossings printed", x.count(4), 12);
        check.due("clashes of 0 and 2", x.count(3), 8);
    }

    private static void made() {
        CaptainTides x = new CaptainTides();
        check.due("made of none", x.made(), 1.0f);
        x.sail(1);
        check.due("made", x.made(), 11.0f / 13.0f);
        x.undo();
        check.due("made after undo", x.made(), 1.0f);
        x.sail(30);
        int made = x.count(5);
        check.due("made of many", x.made(), (float) made / (float) (made + x.count(6)));
        CaptainTides none = Check.write(new CaptainTides(), "0:f23;1:f23;2:f23");
        none.captains();
        none.sail(5);
        check.due("made of days without crossings", none.made(), 1.0f);
    }

    private static void madeAllAndNone() {
        CaptainTides x = Check.write(new CaptainTides(), "0:p3d6f21h0;1:p3d6f21h0;2:f23");
        x.captains();
        x.set(0, 0);
        x.captain(1, 2, 23);
        x.truth(3);
        x.sail(1);
        check.due("made of one of one", x.made(), 1.0f);
        x.captain(1, 2, 21);
        x.sail(1);
        check.due("made of two of three", x.made(), 2.0f / 3.0f);
        CaptainTides none = Check.write(new CaptainTides(), "0:p3d6f21;1:f23;2:f23");
        none.captains();
        none.sail(1);
        check.due("made of none of one", none.made(), 0.0f);
        none.undo();
        check.due("made of none at all", none.made(), 1.0f);
    }

    private static void nothingToldChangesAnything() {
        for (int a = -1; a < 6; a++) {
            CaptainTides x = Check.write(new CaptainTides(), "0:p1;");
            x.sail(3);
            x.captain(1, 0, 7);
            String before = Check.picture(x);
            for (int b = -1; b < 6; b++) {
                for (int c = -1; c < 3; c++) {
                    x.printed(a, b, c);
                    x.level(a, b, c);
                }
                x.captainOf(a, b);
                x.uses(a, b);
                x.clash(a, b);
                x.hours(a, b);
            }
            x.count(a);
            x.ifSailed(a);
            x.bestHour(a);
            x.bestPhase(a);
            check.isTrue("what is told changed something", before.equals(Check.picture(x)));
        }
    }
}
