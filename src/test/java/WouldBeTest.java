/** Promises 22 to 24: ifSailed, bestHour and bestPhase. */
final class WouldBeTest {
    private static final Check check = new Check("WouldBeTest");

    public static void main(String[] args) {
        nextDay();
        nextDayIsAsItIsSailed();
        learnersAsASet();
        bestHour();
        bestHourOfSeveral();
        bestHourAtItsEnds();
        bestPhase();
        bestPhaseAtItsEnds();
        bestsAreTheBest();
        check.end();
    }

    private static void nextDay() {
        CaptainTides x = new CaptainTides();
        String before = Check.picture(x);
        int[] due = {11, 2, 12, 9, 4, 7};
        for (int what = 0; what < due.length; what++) {
            check.due("ifSailed " + what, x.ifSailed(what), due[what]);
        }
        for (int what : new int[] {-1, 6, Integer.MIN_VALUE, Integer.MAX_VALUE}) {
            check.due("ifSailed " + what, x.ifSailed(what), -2);
        }
        check.isTrue("ifSailed() changed something", before.equals(Check.picture(x)));
    }

    private static void nextDayIsAsItIsSailed() {
        Chance chance = new Chance(3);
        for (int i = 0; i < 20; i++) {
            fifteenDaysAreAsTheyAreSailed(chance);
        }
    }

    private static void fifteenDaysAreAsTheyAreSailed(Chance chance) {
        CaptainTides x = new CaptainTides();
        x.lot(chance.below(65537));
        int[] counts = {5, 6, 8, 9, 7};
        for (int day = 0; day < 15; day++) {
            int[] told = new int[6];
            int[] before = new int[5];
            int[] lessons = new int[3];
            for (int i = 0; i < 5; i++) {
                before[i] = x.count(counts[i]);
            }
            for (int what = 0; what < 6; what++) {
                told[what] = x.ifSailed(what);
            }
            for (int c = 0; c < 3; c++) {
                lessons[c] = x.captainOf(c, 10);
            }
            x.sail(1);
            for (int i = 0; i < 5; i++) {
                check.due("ifSailed " + i, told[i], x.count(counts[i]) - before[i]);
            }
            for (int c = 0; c < 3; c++) {
                check.due("ifSailed 5", told[5] >> c & 1, x.captainOf(c, 10) - lessons[c]);
            }
            x.captain(chance.below(3), 0, chance.below(12));
            x.captain(chance.below(3), 1, 1 + chance.below(6));
            x.captain(chance.below(3), 2, chance.below(24));
            x.captain(chance.below(3), 3, chance.below(2));
            x.set(1, 1 + chance.below(9));
        }
    }

    private static void learnersAsASet() {
        CaptainTides x = new CaptainTides();
        int[] due = {7, 7, 7, 6, 2, 0, 0, 0, 0};
        for (int setting = 1; setting <= 9; setting++) {
            x.set(1, setting);
            check.due("learners with the setting " + setting, x.ifSailed(5), due[setting - 1]);
        }
    }

    /** Only the captain 0 prints: no clashes at all, most crossings count. */
    private static void bestHour() {
        CaptainTides x = Check.write(new CaptainTides(), "0:p0d1f9;1:f23;2:f23");
        x.captains();
        // From 0: 0 3 7 10 13 16 19; from 1: 1 4 7 ..; from 2: 2 5 8 11 14 17 20; none has eight.
        check.due("bestHour of the draft 1", x.bestHour(0), 0);
        x.captain(0, 0, 1);
        check.due("bestHour of the phase 1", x.bestHour(0), 0);
        check.due("first hour stays", x.captainOf(0, 2), 9);
        Check.write(x, "0:p9d5");
        x.captains();
        // Water in 2 3 4 and 14 15 16: from 0 on 2, 14; never more.
        check.due("bestHour of two crossings", x.bestHour(0), 0);
        for (int captain : new int[] {-1, 3, Integer.MIN_VALUE, Integer.MAX_VALUE}) {
            check.due("bestHour " + captain, x.bestHour(captain), -1);
        }
    }

    private static void bestHourOfSeveral() {
        CaptainTides x = Check.write(new CaptainTides(), "0:p0d6f0h0;1:p0d6f0h0;2:p0d6f23h1");
        x.captains();
        check.due("clashes", x.count(3), 4);
        // From the hour 0 all four uses clash. From 1 to 12 the crossing at 12 departs from the home, where
        // the captain 1 is gone by then: no clash. Behind that nothing is printed, which has fewer crossings.
        check.due("bestHour 0", x.bestHour(0), 1);
        x.captain(1, 3, 1);
        // From the other pier nothing clashes, and the hour 0 brings two crossings.
        check.due("bestHour 0 from the other pier", x.bestHour(0), 0);
        x.captain(2, 2, 0);
        x.captain(2, 3, 0);
        // The captains 1 and 2 use both piers at 0, 2, 12 and 14: no clash is better than any crossing.
        check.due("bestHour 0 with no room", x.bestHour(0), 13);
        x.captain(1, 3, 0);
        // Here the captains 1 and 2 clash by themselves in all four places: a third one there clashes no more.
        check.due("bestHour 0 among clashes", x.bestHour(0), 0);
    }

    /** At 21 the captains 1 and 2 hold both piers, and the captain 0 has a crossing at 21 from each hour up to 21. */
    private static void bestHourAtItsEnds() {
        CaptainTides x = Check.write(new CaptainTides(), "0:p3d6f5h0;1:p3d6f21h0;2:p3d6f21h1");
        x.captains();
        check.due("bestHour that prints nothing", x.bestHour(0), 22);
        Check.write(x, "1:f22;2:f23");
        x.captains();
        check.due("bestHour of those from 0 to 9 that print two", x.bestHour(0), 0);
    }

    private static void bestPhase() {
        CaptainTides x = Check.write(new CaptainTides(), "0:p6d6f0;1:f23;2:f23");
        x.captains();
        // The water is 6 at 0 and 12: by the phase 0 both are printed and made.
        check.due("bestPhase 0", x.bestPhase(0), 0);
        x.truth(11);
        // The water is 6 at 1 and 13, and a day by the phase 0 makes both, an hour late.
        check.due("bestPhase 0 of the truth 11", x.bestPhase(0), 0);
        x.truth(1);
        // The water is 6 at 11 and 23: only one crossing can be made, at 11, whatever is printed by then.
        check.due("bestPhase 0 of the truth 1", x.bestPhase(0), 0);
        x.truth(5);
        // The water is 6 at 7 and 19: to print two of them before or at 7 and 19 is enough.
        check.due("bestPhase 0 of the truth 5", x.bestPhase(0), 0);
        check.due("belief stays", x.captainOf(0, 0), 6);
        check.due("a captain without crossings", x.bestPhase(1), 0);
        x.captain(0, 2, 13);
        // From 13 on: 12 minus the phase is 13 to 19 for the phases 11 down to 5.
        check.due("bestPhase 0 from 13", x.bestPhase(0), 5);
        for (int captain : new int[] {-1, 3, Integer.MIN_VALUE, Integer.MAX_VALUE}) {
            check.due("bestPhase " + captain, x.bestPhase(captain), -1);
        }
    }

    /** With water in the hour 13 alone, only the phase 11 prints the crossing in time. */
    private static void bestPhaseAtItsEnds() {
        CaptainTides x = Check.write(new CaptainTides(), "0:p4d6f13;1:f23;2:f23");
        x.captains();
        x.truth(11);
        check.due("bestPhase at the upper end", x.bestPhase(0), 11);
        x.captain(0, 0, 11);
        check.due("bestPhase that is believed already", x.bestPhase(0), 11);
        x.captain(0, 2, 12);
        // From 12 on the phase 0 prints 12, and sails at 13.
        check.due("bestPhase at the lower end", x.bestPhase(0), 0);
        x.captain(0, 2, 22);
        check.due("bestPhase of all that are alike", x.bestPhase(0), 0);
        check.due("the true phase stays", x.count(1), 11);
    }

    private static int bestHourTried(CaptainTides x, int captain) {
        int best = -1;
        int fewest = 0;
        int most = 0;
        for (int hour = 0; hour < 24; hour++) {
            x.captain(captain, 2, hour);
            int clashes = x.count(3);
            int crossings = x.captainOf(captain, 4);
            if (best < 0 || clashes < fewest || (clashes == fewest && crossings > most)) {
                best = hour;
                fewest = clashes;
                most = crossings;
            }
        }
        return best;
    }

    private static int bestPhaseTried(CaptainTides x, int captain) {
        int best = -1;
        int most = 0;
        for (int phase = 0; phase < 12; phase++) {
            x.captain(captain, 0, phase);
            int made = x.ifSailed(0);
            if (best < 0 || made > most) {
                best = phase;
                most = made;
            }
        }
        return best;
    }

    private static void bestsAreTheBest() {
        Chance chance = new Chance(11);
        for (int i = 0; i < 500; i++) {
            CaptainTides x = new CaptainTides();
            for (int c = 0; c < 3; c++) {
                x.captain(c, 0, chance.below(12));
                x.captain(c, 1, 1 + chance.below(6));
                x.captain(c, 2, chance.below(24));
                x.captain(c, 3, chance.below(2));
            }
            x.truth(chance.below(12));
            x.lot(chance.below(65537));
            int captain = chance.below(3);
            x.keep();
            String before = Check.picture(x);
            int hour = x.bestHour(captain);
            int phase = x.bestPhase(captain);
            check.isTrue("the best changed something", before.equals(Check.picture(x)));
            check.due("bestHour " + captain, hour, bestHourTried(x, captain));
            x.restore();
            check.due("bestPhase " + captain, phase, bestPhaseTried(x, captain));
        }
    }
}
