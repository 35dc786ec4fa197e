/** Promises 1 to 6: a new object, captain, captains, truth, set and lot. */
final class CaptainsTest {
    private static final Check check = new Check("CaptainsTest");

    private static final int[] LEAST = {0, 1, 0, 0};
    private static final int[] GREATEST = {11, 6, 23, 1};

    public static void main(String[] args) {
        constants();
        newObject();
        captainTakesEveryValueInRange();
        captainRefusesWhatIsOutOfRange();
        captainTellsErrorsInOrder();
        captainIsAnAct();
        captainsChangesWhatTheTextTells();
        captainsLeavesTheRest();
        captainsRefusesAFaultyText();
        truth();
        settings();
        lot();
        check.end();
    }

    private static void constants() {
        check.due("UNKNOWN", CaptainTides.UNKNOWN, -1);
        check.due("BAD_VALUE", CaptainTides.BAD_VALUE, -2);
        check.due("FULL", CaptainTides.FULL, -3);
        check.due("NONE", CaptainTides.NONE, -5);
    }

    private static void newObject() {
        CaptainTides x = new CaptainTides();
        int[][] captains = {{0, 2, 6, 0, 4}, {4, 2, 6, 1, 5}, {8, 2, 6, 0, 4}};
        for (int c = 0; c < 3; c++) {
            for (int what = 0; what <= 10; what++) {
                check.due("new captainOf " + c + " " + what, x.captainOf(c, what), what < 5 ? captains[c][what] : 0);
            }
        }
        int[] counts = {0, 0, 1, 5, 13, 0, 0, 0, 0, 0, 0, 0, 1, 3};
        for (int what = 0; what < counts.length; what++) {
            check.due("new count " + what, x.count(what), counts[what]);
        }
        check.due("new made", x.made(), 1.0f);
        check.due("new fault", x.fault(), 0);
        check.due("new undo", x.undo(), -5);
        check.due("new restore", x.restore(), -5);
    }

    private static void captainTakesEveryValueInRange() {
        for (int c = 0; c < 3; c++) {
            for (int what = 0; what < 4; what++) {
                CaptainTides x = new CaptainTides();
                int previous = x.captainOf(c, what);
                for (int value = LEAST[what]; value <= GREATEST[what]; value++) {
                    String call = "captain " + c + " " + what + " " + value;
                    check.due(call, x.captain(c, what, value), value == previous ? -5 : previous);
                    check.due(call + " told", x.captainOf(c, what), value);
                    check.due(call + " again", x.captain(c, what, value), -5);
                    previous = value;
                }
            }
        }
    }

    private static void captainRefusesWhatIsOutOfRange() {
        CaptainTides x = new CaptainTides();
        String before = Check.picture(x);
        int[] far = {Integer.MIN_VALUE, Integer.MAX_VALUE};
        for (int what = 0; what < 4; what++) {
            int[] values = {LEAST[what] - 1, GREATEST[what] + 1, far[0], far[1]};
            for (int value : values) {
                check.due("captain 0 " + what + " " + value, x.captain(0, what, value), -2);
            }
        }
        for (int what : new int[] {-1, 4, 5, 10, far[0], far[1]}) {
            check.due("captain 0 " + what + " 1", x.captain(0, what, 1), -2);
        }
        for (int captain : new int[] {-1, 3, far[0], far[1]}) {
            check.due("captain " + captain, x.captain(captain, 0, 1), -1);
        }
        check.isTrue("a refused captain() changed something", before.equals(Check.picture(x)));
    }

    private static void captainTellsErrorsInOrder() {
        CaptainTides x = new CaptainTides();
        check.due("captain 3 9 99", x.captain(3, 9, 99), -1);
        check.due("captain -1 1 0", x.captain(-1, 1, 0), -1);
        check.due("captain 0 9 0", x.captain(0, 9, 0), -2);
    }

    private static void captainIsAnAct() {
        CaptainTides x = new CaptainTides();
        x.captain(1, 2, 6);
        check.due("history after NONE", x.count(10), 0);
        x.captain(1, 2, 7);
        check.due("history after an act", x.count(10), 1);
        check.due("undo of captain", x.undo(), 0);
        check.due("first hour after undo", x.captainOf(1, 2), 6);
    }

    private static void captainsChangesWhatTheTextTells() {
        CaptainTides x = Check.write(new CaptainTides(), "2:p11d6f23h1");
        check.due("captains one part", x.captains(), 1);
        check.due("belief", x.captainOf(2, 0), 11);
        check.due("draft", x.captainOf(2, 1), 6);
        check.due("first hour", x.captainOf(2, 2), 23);
        check.due("home", x.captainOf(2, 3), 1);
        check.due("belief of another", x.captainOf(0, 0), 0);
        check.due("text stays", x.count(11), 12);
        check.due("captains again is no error", x.captains(), 1);
        check.due("history", x.count(10), 2);

        Check.write(x, "0:p1p2;1:d3;0:p9h1p5;2:h0");
        check.due("captains four parts", x.captains(), 4);
        check.due("the later one counts", x.captainOf(0, 0), 5);
        check.due("home of 0", x.captainOf(0, 3), 1);
        check.due("draft of 1", x.captainOf(1, 1), 3);
        check.due("home of 2", x.captainOf(2, 3), 0);
        check.due("what is not told stays", x.captainOf(2, 1), 6);
        check.due("captains is one act", x.count(10), 3);
        check.due("undo of captains", x.undo(), 2);
        check.due("all parts undone", x.captainOf(0, 0) + x.captainOf(0, 3), 0);
        check.due("undone draft of 1", x.captainOf(1, 1), 2);
    }

    /** A text that tells but a home does the same as captain() with that home. */
    private static void captainsLeavesTheRest() {
        CaptainTides x = Check.write(new CaptainTides(), "0:h1");
        CaptainTides y = Check.write(new CaptainTides(), "0:h1");
        for (CaptainTides each : new CaptainTides[] {x, y}) {
            each.set(1, 4);
            each.set(0, 0);
            each.truth(7);
            each.sail(3);
            each.captain(2, 1, 5);
            each.lot(321);
        }
        check.due("captains", x.captains(), 1);
        check.due("captain", y.captain(0, 3, 1), 0);
        check.isTrue("captains() and captain() differ", Check.picture(x).equals(Check.picture(y)));
    }

    private static void captainsRefusesAFaultyText() {
        CaptainTides x = new CaptainTides();
        check.due("captains of the empty text", x.captains(), -100);
        Check.write(x, "0:p5;1:d7");
        String before = Check.picture(x);
        check.due("captains with a fault", x.captains(), -108);
        Check.write(x, "0:p5;1:d");
        check.due("captains that end too early", x.captains(), -108);
        Check.write(x, "0:p5;1:d7");
        check.isTrue("a faulty text changed something", before.equals(Check.picture(x)));
    }

    private static void truth() {
        CaptainTides x = new CaptainTides();
        check.due("truth 0", x.truth(0), -5);
        for (int phase : new int[] {-1, 12, Integer.MIN_VALUE, Integer.MAX_VALUE}) {
            check.due("truth " + phase, x.truth(phase), -2);
        }
        check.due("history", x.count(10), 0);
        for (int phase = 1; phase < 12; phase++) {
            check.due("truth " + phase, x.truth(phase), phase - 1);
            check.due("phase", x.count(1), phase);
        }
        check.due("truth 11 again", x.truth(11), -5);
        check.due("history", x.count(10), 4);
        check.due("undo of truth", x.undo(), 3);
        check.due("phase after undo", x.count(1), 10);
    }

    private static void settings() {
        CaptainTides x = new CaptainTides();
        check.due("set 0 1", x.set(0, 1), -5);
        check.due("set 1 3", x.set(1, 3), -5);
        int[][] refused = {{0, -1}, {0, 2}, {1, 0}, {1, 10}, {-1, 1}, {2, 1}, {Integer.MIN_VALUE, 1},
            {Integer.MAX_VALUE, 1}, {0, Integer.MAX_VALUE}, {1, Integer.MIN_VALUE}};
        for (int[] pair : refused) {
            check.due("set " + pair[0] + " " + pair[1], x.set(pair[0], pair[1]), -2);
        }
        check.due("history", x.count(10), 0);
        check.due("set 0 0", x.set(0, 0), 1);
        check.due("set 0 1", x.set(0, 1), 0);
        check.due("set 1 9", x.set(1, 9), 3);
        check.due("set 1 1", x.set(1, 1), 9);
        check.due("count 12", x.count(12), 1);
        check.due("count 13", x.count(13), 1);
        check.due("undo of set", x.undo(), 3);
        check.due("count 13 after undo", x.count(13), 9);
    }

    private static void lot() {
        CaptainTides x = new CaptainTides();
        check.due("lot 1", x.lot(1), -5);
        for (int lot : new int[] {-1, 65537, Integer.MIN_VALUE, Integer.MAX_VALUE}) {
            check.due("lot " + lot, x.lot(lot), -2);
        }
        check.due("history", x.count(10), 0);
        check.due("lot 0", x.lot(0), 1);
        check.due("lot 65536", x.lot(65536), 0);
        check.due("count 2", x.count(2), 65536);
        check.due("undo of lot", x.undo(), 1);
        check.due("count 2 after undo", x.count(2), 0);
    }
}
