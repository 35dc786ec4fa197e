/** Promise 7: sailing, lying aground, lots, pardons, cancelled crossings and what is learnt. */
final class SailTest {
    private static final Check check = new Check("SailTest");

    public static void main(String[] args) {
        firstDay();
        refusals();
        fullAtTheLastDay();
        drift();
        learnsFromTheSetHours();
        lotAmongThree();
        arrivalTakesThePier();
        lotThatStays();
        lastDepartureIsAt21();
        untoldCrossingsAreCancelled();
        printedAnewEachDay();
        sailIsOneAct();
        check.end();
    }

    /** Followed hour by hour by hand: captains 0 to 2 print 8 11 14 20, 6 9 12 16 19 and 6 12 15 18. */
    private static void firstDay() {
        CaptainTides x = new CaptainTides();
        check.due("sail 1", x.sail(1), 11);
        int[][] captains = {{3, 3, 5, 3, 1, 1}, {4, 5, 4, 1, 1, 1}, {4, 4, 0, 0, 0, 1}};
        for (int c = 0; c < 3; c++) {
            for (int i = 0; i < 6; i++) {
                check.due("captainOf " + c + " " + (5 + i), x.captainOf(c, 5 + i), captains[c][i]);
            }
            check.due("belief of " + c + " is tomorrow's truth", x.captainOf(c, 0), 1);
        }
        int[] counts = {1, 1, 38044};
        for (int what = 0; what < counts.length; what++) {
            check.due("count " + what, x.count(what), counts[what]);
        }
        int[] sums = {11, 2, 4, 12, 9, 1};
        for (int i = 0; i < sums.length; i++) {
            check.due("count " + (5 + i), x.count(5 + i), sums[i]);
        }
        check.due("made", x.made(), 11.0f / 13.0f);
    }

    private static void refusals() {
        CaptainTides x = new CaptainTides();
        String before = Check.picture(x);
        for (int days : new int[] {0, -1, 31, Integer.MIN_VALUE, Integer.MAX_VALUE}) {
            check.due("sail " + days, x.sail(days), -2);
        }
        check.isTrue("a refused sail() changed something", before.equals(Check.picture(x)));
        check.isTrue("sail(30) is refused", x.sail(30) > 0);
        check.due("day", x.count(0), 30);
    }

    private static void fullAtTheLastDay() {
        CaptainTides x = new CaptainTides();
        for (int i = 0; i < 333; i++) {
            check.isTrue("sail(30) is refused behind " + i + " times", x.sail(30) >= 0);
        }
        check.due("day", x.count(0), 9990);
        check.due("sail 10 of 9", x.sail(10), -3);
        check.due("day after FULL", x.count(0), 9990);
        check.due("history", x.count(10), 4);
        check.isTrue("sail(9) to the day 9999 is refused", x.sail(9) >= 0);
        check.due("last day", x.count(0), 9999);
        check.due("made so far is not lost", x.count(5) + x.count(6) > 9999 ? 1 : 0, 1);
        String before = Check.picture(x);
        check.due("sail 1 at the end", x.sail(1), -3);
        check.due("sail 0 at the end", x.sail(0), -2);
        check.due("sail 31 at the end", x.sail(31), -2);
        check.isTrue("sail() at the end changed something", before.equals(Check.picture(x)));
        check.isTrue("the next day is not told at the end", x.ifSailed(0) >= 0);
    }

    private static void drift() {
        CaptainTides x = new CaptainTides();
        x.truth(11);
        x.sail(1);
        check.due("phase behind 11", x.count(1), 0);
        x.sail(30);
        check.due("phase behind 30 more", x.count(1), 6);
        x.set(0, 0);
        x.sail(7);
        check.due("phase without drift", x.count(1), 6);
    }

    /** On the first day the captains lie aground for 3, 5 and 4 hours. */
    private static void learnsFromTheSetHours() {
        int[] hours = {3, 5, 4};
        int[] beliefs = {0, 4, 8};
        for (int setting = 1; setting <= 9; setting++) {
            CaptainTides x = new CaptainTides();
            x.set(1, setting);
            x.sail(1);
            for (int c = 0; c < 3; c++) {
                boolean learns = hours[c] >= setting;
                check.due("setting " + setting + " learnt " + c, x.captainOf(c, 10), learns ? 1 : 0);
                check.due("setting " + setting + " belief " + c, x.captainOf(c, 0), learns ? 1 : beliefs[c]);
            }
        }
    }

    /** All want the pier 0 in the hour 0, with water in the hours 0 and 12 alone: two crossings each. */
    private static CaptainTides threeAtOnePier(int lot) {
        CaptainTides x = Check.write(new CaptainTides(), "0:p0d6f0h0;1:p0d6f0h0;2:p0d6f0h0");
        x.captains();
        x.lot(lot);
        return x;
    }

    private static void lotAmongThree() {
        // These become 74, 87 and 100: of three, the ranks 2, 0 and 1.
        int[] lots = {0, 874, 1748};
        int[] winners = {2, 0, 1};
        for (int i = 0; i < lots.length; i++) {
            CaptainTides x = threeAtOnePier(lots[i]);
            x.sail(1);
            for (int c = 0; c < 3; c++) {
                boolean wins = c == winners[i];
                check.isTrue("lot " + lots[i] + ", captain " + c, wins == (x.captainOf(c, 5) == 2));
                check.isTrue("lot " + lots[i] + ", late " + c, wins == (x.captainOf(c, 7) == 0));
            }
        }
        // The lot 0 becomes 74, of rank 2: captain 2 goes at 0 and comes back from the pier 1 alone at 12.
        CaptainTides x = threeAtOnePier(0);
        check.due("printed", x.count(4), 6);
        check.due("sail", x.sail(1), 3);
        // At 12 the captains 0 and 1 draw: 75 * 74 + 74 = 5624, of rank 0.
        check.due("lot", x.count(2), 5624);
        check.due("lots drawn", x.count(7), 2);
        int[] made = {1, 0, 2};
        int[] late = {1, 2, 0};
        for (int c = 0; c < 3; c++) {
            check.due("made by " + c, x.captainOf(c, 5), made[c]);
            check.due("late " + c, x.captainOf(c, 7), late[c]);
            check.due("pardoned " + c, x.captainOf(c, 8), late[c]);
            check.due("cancelled " + c, x.captainOf(c, 9), 2 - made[c]);
        }
        // Captain 0 waits aground in 1 to 11; behind its crossing at 12 it wants again from 14 to 21.
        check.due("aground 0", x.captainOf(0, 6), 11 + 8);
        check.due("aground 1", x.captainOf(1, 6), 11 + 9);
        check.due("aground 2", x.captainOf(2, 6), 0);
    }

    /** Captain 0 goes at 0 to the pier 1, where captain 1 wants to depart at 2: late without a pardon. */
    private static void arrivalTakesThePier() {
        CaptainTides x = Check.write(new CaptainTides(), "0:p0d1f0h0;1:p0d1f2h1;2:p0d6f23");
        x.captains();
        check.due("printed by 2", x.captainOf(2, 4), 0);
        int[] hours = {0, 3, 7, 10, 13, 16, 19};
        for (int i = 0; i < hours.length; i++) {
            check.due("printed by 0", x.printed(0, i, 0), hours[i]);
        }
        check.due("printed by 1", x.printed(1, 0, 0), 2);
        check.due("sail", x.sail(1), 11);
        // Crossings made, hours aground, late, pardons, cancelled: followed hour by hour by hand.
        int[][] told = {{6, 1, 7, 4, 1}, {5, 2, 8, 1, 2}, {0, 0, 0, 0, 0}};
        for (int c = 0; c < 3; c++) {
            for (int i = 0; i < 5; i++) {
                check.due("captainOf " + c + " " + (5 + i), x.captainOf(c, 5 + i), told[c][i]);
            }
        }
        check.due("lots drawn", x.count(7), 5);
        check.due("lot", x.count(2), 35283);
    }

    /** 75 * 65536 + 74 is 65536 again, modulo 65537. */
    private static void lotThatStays() {
        CaptainTides x = new CaptainTides();
        x.lot(65536);
        x.sail(1);
        check.due("lot", x.count(2), 65536);
        check.isTrue("no lot was drawn", x.count(7) > 0);
    }

    private static void lastDepartureIsAt21() {
        CaptainTides x = Check.write(new CaptainTides(), "0:p3d6f21;1:f23d6;2:f23d6");
        x.captains();
        // Believed and true, the captain 0 has 6 of water at 9 and 21.
        x.truth(3);
        check.due("printed at 21", x.printed(0, 0, 0), 21);
        check.due("sail at 21", x.sail(1), 1);
        check.due("cancelled", x.count(6), 0);
    }

    /** The water comes an hour too late: the captain lies aground at 21 alone. */
    private static void untoldCrossingsAreCancelled() {
        CaptainTides x = Check.write(new CaptainTides(), "0:p3d6f21;1:f23d6;2:f23d6");
        x.captains();
        x.truth(2);
        check.due("sail", x.sail(1), 0);
        check.due("aground", x.captainOf(0, 6), 1);
        check.due("cancelled", x.captainOf(0, 9), 1);
        check.due("made", x.made(), 0.0f);
        check.due("learnt", x.captainOf(0, 10), 0);
    }

    /** What is learnt in a day changes the timetable of the next one within one call. */
    private static void printedAnewEachDay() {
        CaptainTides a = new CaptainTides();
        CaptainTides b = new CaptainTides();
        int sum = 0;
        for (int i = 0; i < 12; i++) {
            int told = b.ifSailed(0);
            int sailed = b.sail(1);
            check.due("ifSailed ahead of sail", told, sailed);
            sum += sailed;
        }
        check.due("sail 12 at once", a.sail(12), sum);
        check.isTrue("12 days at once differ from 12 single ones", Check.stateOf(a).equals(Check.stateOf(b)));
    }

    private static void sailIsOneAct() {
        CaptainTides x = new CaptainTides();
        String before = Check.stateOf(x);
        x.sail(9);
        check.due("history", x.count(10), 1);
        check.due("undo", x.undo(), 0);
        check.isTrue("undo of sail leaves something", before.equals(Check.stateOf(x)));
    }
}
