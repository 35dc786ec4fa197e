/** Promise 7 at the edges that the terms name: one hour, one level, one lot or one day more or less. */
final class SailEdgesTest {
    private static final Check check = new Check("SailEdgesTest");

    /** 75 times it and 74 is a multiple of 65537. */
    private static final int LOT_AHEAD_OF_0 = 45438;

    public static void main(String[] args) {
        trueLevelJustTheDraft();
        homesAtFirstOfEachDay();
        ownArrivalHoldsAFerryUp();
        arrivalComesAheadOfALot();
        arrivalHoldsItsOwnPierAlone();
        whoLiesAgroundDrawsNoLot();
        whoArrivedMayLieAground();
        oneAloneDrawsNoLot();
        lotsAtTheirEnds();
        learnsFromNineHoursAndFromEight();
        learnsTheNextDaysPhase();
        learningWhatIsBelievedAlready();
        phaseElevenWithAndWithoutDrift();
        thirtyDaysAtOnce();
        sailingForNoCrossingIsAnAct();
        theDays9998And9999();
        check.end();
    }

    private static CaptainTides told(String text, int truth) {
        CaptainTides x = Check.write(new CaptainTides(), text);
        x.captains();
        x.truth(truth);
        return x;
    }

    /** Crossings made, hours aground, hours late, pardons and crossings cancelled of a captain. */
    private static void dueOf(String when, CaptainTides x, int captain, int... due) {
        for (int i = 0; i < due.length; i++) {
            check.due(when + ": captainOf " + captain + " " + (5 + i), x.captainOf(captain, 5 + i), due[i]);
        }
    }

    private static void trueLevelJustTheDraft() {
        // By the true phase 0 the level in the hour 21 is 3.
        CaptainTides x = told("0:p3d3f21;1:f23;2:f23", 0);
        x.sail(1);
        dueOf("as much water as draft", x, 0, 1, 0, 0, 0, 0);
        CaptainTides y = told("0:p3d4f21;1:f23;2:f23", 0);
        y.sail(1);
        dueOf("one less water than draft", y, 0, 0, 1, 0, 0, 1);
    }

    /** Each day one ferry crosses from the pier 0 and ends at the pier 1; on the next day both are at 0 again. */
    private static void homesAtFirstOfEachDay() {
        CaptainTides x = told("0:p3d6f21h0;1:p3d6f21h0;2:f23", 3);
        x.set(0, 0);
        for (int day = 1; day <= 3; day++) {
            check.due("sail of the day " + day, x.sail(1), 1);
            check.due("lots by the day " + day, x.count(7), day);
            check.due("cancelled by the day " + day, x.count(6), day);
        }
    }

    /** Aground at 0, gone at 1, back at 3, where the next crossing is printed for 3: it has to wait until 4. */
    private static void ownArrivalHoldsAFerryUp() {
        CaptainTides x = told("0:p0d1f0h0;1:f23;2:f23", 6);
        check.due("printed 0", x.printed(0, 0, 0), 0);
        check.due("printed 1", x.printed(0, 1, 0), 3);
        check.due("printed 2", x.printed(0, 2, 0), 7);
        check.due("sail", x.sail(1), 7);
        dueOf("own arrival", x, 0, 7, 1, 1, 0, 0);
        check.due("lots drawn", x.count(7), 0);
        check.due("lot", x.count(2), 1);
    }

    /** Captain 0 comes to the pier 1 at 20, where 1 and 2 want to depart: none gets it, and none draws a lot. */
    private static void arrivalComesAheadOfALot() {
        CaptainTides x = told("0:p6d6f18h0;1:p4d1f20h1;2:p4d1f20h1", 6);
        check.due("sail", x.sail(1), 2);
        // At 21 the lot becomes 149, of rank 1; at 22 the captain 1 could not arrive any more.
        check.due("lots drawn", x.count(7), 1);
        check.due("lot", x.count(2), 149);
        dueOf("arrival ahead of a lot", x, 0, 1, 0, 0, 0, 0);
        dueOf("arrival ahead of a lot", x, 1, 0, 0, 2, 1, 1);
        dueOf("arrival ahead of a lot", x, 2, 1, 0, 1, 0, 0);
    }

    private static void arrivalHoldsItsOwnPierAlone() {
        CaptainTides x = told("0:p6d6f18h0;1:p4d1f20h0;2:f23", 6);
        check.due("sail", x.sail(1), 2);
        dueOf("arrival at the other pier", x, 1, 1, 0, 0, 0, 0);
        CaptainTides y = told("0:p6d6f18h0;1:p4d1f20h1;2:f23", 6);
        check.due("sail", y.sail(1), 2);
        dueOf("arrival at this pier", y, 1, 1, 0, 1, 0, 0);
    }

    /** The lot 74 among the captains 1 and 2 has the rank 0; among three it would have the rank 2. */
    private static void whoLiesAgroundDrawsNoLot() {
        CaptainTides x = told("0:p3d6f21h0;1:p3d1f21h0;2:p3d1f21h0", 6);
        x.lot(0);
        check.due("sail", x.sail(1), 1);
        check.due("lot", x.count(2), 74);
        dueOf("aground", x, 0, 0, 1, 0, 0, 1);
        dueOf("wins the lot", x, 1, 1, 0, 0, 0, 0);
        dueOf("loses the lot", x, 2, 0, 0, 1, 1, 1);
    }

    /**
     * At 17 the captain 2 wins the lot against 0, which is gone at 18 and comes to the pier 1 at 20, when its next
     * crossing is due. It lies aground there, and all the same it uses the pier: the captain 1 is late.
     */
    private static void whoArrivedMayLieAground() {
        // The true levels from 17 to 21 are 5, 4, 3, 2 and 1.
        CaptainTides x = told("0:p6d4f17h0;1:p4d1f20h1;2:p7d5f17h0", 8);
        check.due("printed by 0", x.printed(0, 1, 0), 20);
        check.due("sail", x.sail(1), 3);
        check.due("lot", x.count(2), 149);
        dueOf("aground where it arrived", x, 0, 1, 2, 1, 1, 1);
        dueOf("late by who lies aground", x, 1, 1, 0, 1, 0, 0);
        dueOf("wins the lot at 17", x, 2, 1, 0, 0, 0, 0);
    }

    private static void oneAloneDrawsNoLot() {
        CaptainTides x = told("0:p3d6f21h0;1:p3d6f21h1;2:f23", 3);
        check.due("sail", x.sail(1), 2);
        check.due("lots drawn at two piers", x.count(7), 0);
        check.due("lot", x.count(2), 1);
        dueOf("alone at the pier 0", x, 0, 1, 0, 0, 0, 0);
        dueOf("alone at the pier 1", x, 1, 1, 0, 0, 0, 0);
    }

    /** All want the one departure at 21; rows of the lot, what it becomes, and who wins of two and of three. */
    private static void lotsAtTheirEnds() {
        int[][] rows = {{0, 74, 0, 2}, {1, 149, 1, 2}, {872, 65474, 0, 2}, {873, 12, 0, 0}, {65535, 65461, 1, 1},
            {65536, 65536, 0, 1}, {LOT_AHEAD_OF_0, 0, 0, 0}, {LOT_AHEAD_OF_0 + 1, 75, 1, 0}};
        for (int[] row : rows) {
            for (int several = 2; several <= 3; several++) {
                CaptainTides x = told("0:p3d6f21h0;1:p3d6f21h0;2:p3d6h0", 3);
                x.captain(2, 2, several == 3 ? 21 : 23);
                x.lot(row[0]);
                String when = "the lot " + row[0] + " of " + several;
                check.due(when, x.ifSailed(4), 1);
                check.due(when, x.count(2), row[0]);
                check.due(when, x.sail(1), 1);
                check.due(when + " becomes", x.count(2), row[1]);
                for (int c = 0; c < several; c++) {
                    int lost = c == row[several] ? 0 : 1;
                    dueOf(when, x, c, 1 - lost, 0, lost, lost, lost);
                }
            }
        }
    }

    /** With water at 9 and 21 alone, a crossing printed for 12 lies aground for 9 hours, one for 13 for 8. */
    private static void learnsFromNineHoursAndFromEight() {
        int[] learners = {3, 1};
        for (int i = 0; i < 2; i++) {
            int setting = 8 + i;
            CaptainTides x = told("0:p0d6f12h0;1:p11d6f13h1;2:f23", 3);
            x.set(1, setting);
            check.due("learners by " + setting, x.ifSailed(5), learners[i]);
            check.due("sail", x.sail(1), 2);
            dueOf("nine hours", x, 0, 1, 9, 0, 0, 0);
            dueOf("eight hours", x, 1, 1, 8, 0, 0, 0);
            check.due("learnt from nine by " + setting, x.captainOf(0, 10), 1);
            check.due("belief from nine by " + setting, x.captainOf(0, 0), 4);
            check.due("learnt from eight by " + setting, x.captainOf(1, 10), 1 - i);
            check.due("belief from eight by " + setting, x.captainOf(1, 0), i == 0 ? 4 : 11);
            check.due("learnt from none", x.captainOf(2, 10), 0);
        }
    }

    /** Aground at 21 for one hour, which is enough; by what it learns it prints nothing on the next day. */
    private static void learnsTheNextDaysPhase() {
        int[] beliefs = {11, 0};
        for (int drift = 0; drift < 2; drift++) {
            CaptainTides x = told("0:p3d6f21;1:f23;2:f23", 11);
            x.set(0, drift);
            x.set(1, 1);
            check.due("sail", x.sail(1), 0);
            check.due("aground", x.captainOf(0, 6), 1);
            check.due("belief behind 11 with the drift " + drift, x.captainOf(0, 0), beliefs[drift]);
            check.due("printed by the new belief", x.captainOf(0, 4), 0);
            check.due("sail by the new belief", x.sail(1), 0);
            check.due("cancelled on the first day alone", x.captainOf(0, 9), 1);
            check.due("learnt on the first day alone", x.captainOf(0, 10), 1);
        }
    }

    private static void learningWhatIsBelievedAlready() {
        CaptainTides x = told("0:p3d6f21;1:f23;2:f23", 2);
        x.set(1, 1);
        check.due("learners", x.ifSailed(5), 1);
        x.sail(1);
        check.due("belief", x.captainOf(0, 0), 3);
        check.due("learnt", x.captainOf(0, 10), 1);
    }

    private static void phaseElevenWithAndWithoutDrift() {
        for (int drift = 0; drift < 2; drift++) {
            CaptainTides x = new CaptainTides();
            x.truth(11);
            x.set(0, drift);
            x.sail(1);
            check.due("phase behind 11 with the drift " + drift, x.count(1), drift == 0 ? 11 : 0);
            x.sail(12);
            check.due("phase 12 days later", x.count(1), drift == 0 ? 11 : 0);
            x.sail(11);
            check.due("phase 23 days later", x.count(1), 11);
        }
    }

    private static void thirtyDaysAtOnce() {
        CaptainTides atOnce = told("0:d4f0;1:d3f1;2:d5f2h1", 7);
        CaptainTides dayByDay = told("0:d4f0;1:d3f1;2:d5f2h1", 7);
        int sum = 0;
        for (int day = 0; day < 30; day++) {
            sum += dayByDay.sail(1);
        }
        check.due("sail 30", atOnce.sail(30), sum);
        check.isTrue("30 days at once differ from 30 single ones",
                Check.stateOf(atOnce).equals(Check.stateOf(dayByDay)));
        check.due("sail 31", atOnce.sail(31), -2);
        check.due("day", atOnce.count(0), 30);
    }

    private static void sailingForNoCrossingIsAnAct() {
        CaptainTides x = Check.write(new CaptainTides(), "0:f23;1:f22;2:f23");
        x.captains();
        check.due("printed", x.count(4), 0);
        check.due("sail", x.sail(1), 0);
        check.due("history", x.count(10), 2);
        check.due("undo", x.undo(), 1);
        check.due("day", x.count(0), 0);
    }

    private static void theDays9998And9999() {
        CaptainTides x = new CaptainTides();
        for (int i = 0; i < 333; i++) {
            x.sail(30);
        }
        x.sail(8);
        check.due("day", x.count(0), 9998);
        check.due("sail 2 of 1", x.sail(2), -3);
        check.due("sail 30 of 1", x.sail(30), -3);
        check.due("sail 31 of 1", x.sail(31), -2);
        int told = x.ifSailed(0);
        check.due("sail 1 of 1", x.sail(1), told);
        check.due("day", x.count(0), 9999);
        check.due("keep", x.keep(), 9999);
        check.due("sail 1 of 0", x.sail(1), -3);
        check.due("undo of the last day alone", x.undo(), 3);
        check.due("day", x.count(0), 9998);
        check.due("sail 1 again", x.sail(1), told);
        check.due("restore", x.restore(), 9999);
        for (int what = 0; what < 6; what++) {
            check.isTrue("ifSailed " + what + " at the end", x.ifSailed(what) >= 0);
        }
        check.due("ifSailed 6 at the end", x.ifSailed(6), -2);
        check.isTrue("bestPhase at the end", x.bestPhase(0) >= 0);
    }
}
