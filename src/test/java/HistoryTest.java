/** Promises 11 to 13: undo, keep and restore, and what is recorded by which call. */
final class HistoryTest {
    private static final Check check = new Check("HistoryTest");

    public static void main(String[] args) {
        undoGoesBackStateByState();
        historyKeepsFour();
        everyActRecords();
        nothingElseRecords();
        keepAndRestore();
        snapshotIsNoState();
        restoreIsAnAct();
        restoreOfTheBeginning();
        fifthStateDropsTheOldest();
        refusedCallsChangeNothing();
        nothingToUndoOrRestore();
        check.end();
    }

    private static void undoGoesBackStateByState() {
        CaptainTides x = new CaptainTides();
        String[] states = new String[4];
        states[0] = Check.stateOf(x);
        x.captain(0, 1, 5);
        states[1] = Check.stateOf(x);
        x.sail(2);
        states[2] = Check.stateOf(x);
        x.set(1, 8);
        for (int left = 2; left >= 0; left--) {
            check.due("undo", x.undo(), left);
            check.isTrue("undo to the state " + left, states[left].equals(Check.stateOf(x)));
        }
        String before = Check.picture(x);
        check.due("undo of none", x.undo(), -5);
        check.isTrue("undo of none changed something", before.equals(Check.picture(x)));
    }

    private static void historyKeepsFour() {
        CaptainTides x = new CaptainTides();
        for (int lot = 10; lot < 20; lot++) {
            x.lot(lot);
            check.due("states", x.count(10), Math.min(lot - 9, 4));
        }
        for (int i = 3; i >= 0; i--) {
            check.due("undo", x.undo(), i);
            check.due("lot", x.count(2), 15 + i);
        }
        check.due("undo", x.undo(), -5);
        x.lot(99);
        check.due("undo after an act on an empty history", x.undo(), 0);
        check.due("lot", x.count(2), 15);
    }

    private static void everyActRecords() {
        CaptainTides x = Check.write(new CaptainTides(), "0:p0");
        x.keep();
        x.captain(0, 0, 1);
        check.due("captain", x.count(10), 1);
        x.captains();
        check.due("captains", x.count(10), 2);
        x.truth(4);
        check.due("truth", x.count(10), 3);
        x.set(0, 0);
        check.due("set", x.count(10), 4);
        while (x.undo() > 0) {
            check.isTrue("undo leaves no fewer", x.count(10) < 4);
        }
        x.lot(4);
        check.due("lot", x.count(10), 1);
        x.sail(1);
        check.due("sail", x.count(10), 2);
        x.restore();
        check.due("restore", x.count(10), 3);
        x.undo();
        check.due("undo", x.count(10), 2);
    }

    private static void nothingElseRecords() {
        CaptainTides x = new CaptainTides();
        x.captain(0, 0, 0);
        x.captain(9, 0, 0);
        x.captains();
        x.truth(0);
        x.truth(12);
        x.set(0, 1);
        x.set(5, 1);
        x.lot(1);
        x.lot(-1);
        x.sail(0);
        x.type('0');
        x.clearText();
        x.fault();
        x.undo();
        x.restore();
        x.keep();
        Check.picture(x);
        for (int i = 0; i < 3; i++) {
            x.printed(i, 0, 0);
            x.level(i, 3, 0);
            x.uses(i, 3);
            x.clash(i, 0);
            x.hours(i, i);
            x.ifSailed(i);
            x.bestHour(i);
            x.bestPhase(i);
        }
        check.due("history", x.count(10), 0);
    }

    private static void keepAndRestore() {
        CaptainTides x = new CaptainTides();
        check.due("restore without a snapshot", x.restore(), -5);
        x.sail(3);
        check.due("keep", x.keep(), 3);
        String kept = Check.stateOf(x);
        x.sail(4);
        x.captain(2, 3, 1);
        x.set(0, 0);
        check.due("restore", x.restore(), 3);
        check.isTrue("restore of the kept state", kept.equals(Check.stateOf(x)));
        x.lot(77);
        check.due("restore again", x.restore(), 3);
        check.isTrue("the snapshot stays", kept.equals(Check.stateOf(x)));
        x.sail(1);
        check.due("keep in place of the one that was", x.keep(), 4);
        x.sail(1);
        check.due("restore of the later one", x.restore(), 4);
    }

    private static void snapshotIsNoState() {
        CaptainTides x = new CaptainTides();
        x.lot(5);
        x.keep();
        x.undo();
        check.due("lot", x.count(2), 1);
        check.due("restore after undo", x.restore(), 0);
        check.due("lot of the snapshot", x.count(2), 5);
        x.lot(6);
        x.keep();
        x.undo();
        x.undo();
        check.due("lot", x.count(2), 1);
        x.restore();
        check.due("undo does not bring a former snapshot back", x.count(2), 6);
    }

    private static void restoreIsAnAct() {
        CaptainTides x = new CaptainTides();
        x.keep();
        check.due("restore of what is so already", x.restore(), 0);
        check.due("history", x.count(10), 1);
        x.sail(2);
        x.restore();
        check.due("undo of restore", x.undo(), 2);
        check.due("day", x.count(0), 2);
    }

    private static void restoreOfTheBeginning() {
        CaptainTides x = new CaptainTides();
        String before = Check.stateOf(x);
        check.due("keep ahead of the day 0", x.keep(), 0);
        x.sail(30);
        x.captain(1, 0, 11);
        check.due("restore of the beginning", x.restore(), 0);
        check.isTrue("the beginning is another one", before.equals(Check.stateOf(x)));
        check.due("restored lots", x.count(7), 0);
    }

    /** Each act is the fifth one once; behind it the history begins with the state behind the first one. */
    private static void fifthStateDropsTheOldest() {
        for (int act = 0; act < 7; act++) {
            CaptainTides x = Check.write(new CaptainTides(), "0:p0");
            x.keep();
            for (int lot = 10; lot < 14; lot++) {
                x.lot(lot);
            }
            check.due("four states", x.count(10), 4);
            check.isTrue("the act " + act + " is refused", act(x, act) >= 0);
            check.due("states behind the fifth act " + act, x.count(10), 4);
            for (int left = 3; left >= 0; left--) {
                check.due("undo behind the fifth act " + act, x.undo(), left);
                check.due("lot behind the fifth act " + act, x.count(2), 10 + left);
            }
            check.due("undo of none behind the fifth act " + act, x.undo(), -5);
            check.due("lot behind the fifth act " + act, x.count(2), 10);
        }
    }

    private static int act(CaptainTides x, int act) {
        switch (act) {
            case 0:
                return x.captain(0, 0, 1);
            case 1:
                return x.captains();
            case 2:
                return x.truth(4);
            case 3:
                return x.set(0, 0);
            case 4:
                return x.lot(4);
            case 5:
                return x.sail(1);
            default:
                return x.restore();
        }
    }

    /** An object with a full history, a snapshot and a text with a fault. */
    private static CaptainTides full() {
        CaptainTides x = Check.write(new CaptainTides(), "0:p5;1:d7");
        x.lot(65536);
        x.keep();
        x.captain(0, 2, 23);
        x.truth(11);
        x.set(1, 9);
        x.sail(2);
        x.captain(2, 3, 1);
        return x;
    }

    private static void refusedCallsChangeNothing() {
        CaptainTides x = full();
        CaptainTides y = full();
        int[][] captains = {{-1, 0, 0}, {3, 0, 0}, {0, -1, 0}, {0, 4, 0}, {1, 0, -1}, {1, 0, 12}, {1, 1, 0}, {1, 1, 7},
            {1, 2, -1}, {1, 2, 24}, {1, 3, -1}, {1, 3, 2}, {2, 3, 1}, {0, 2, 23}};
        for (int[] row : captains) {
            check.isTrue("captain is not refused", y.captain(row[0], row[1], row[2]) < 0);
        }
        check.due("captains of a text with a fault", y.captains(), -108);
        check.due("truth", y.truth(-1) + y.truth(12), -4);
        check.due("truth that is so already", y.truth(y.count(1)), -5);
        check.due("set", y.set(-1, 0) + y.set(2, 0) + y.set(0, 2) + y.set(0, -1) + y.set(1, 0) + y.set(1, 10), -12);
        check.due("set that is so already", y.set(0, 1) + y.set(1, 9), -10);
        check.due("lot", y.lot(-1) + y.lot(65537), -4);
        check.due("lot that is so already", y.lot(y.count(2)), -5);
        check.due("sail", y.sail(0) + y.sail(-1) + y.sail(31), -6);
        check.isTrue("a refused call changed something", Check.picture(x).equals(Check.picture(y)));
        for (int left = 3; left >= 0; left--) {
            check.due("undo", x.undo() - y.undo(), 0);
            check.isTrue("a refused call changed the history", Check.picture(x).equals(Check.picture(y)));
        }
        check.due("restore", x.restore() - y.restore(), 0);
        check.isTrue("a refused call changed the snapshot", Check.picture(x).equals(Check.picture(y)));
    }

    private static void nothingToUndoOrRestore() {
        CaptainTides x = Check.write(new CaptainTides(), "0:p5");
        String before = Check.picture(x);
        check.due("undo of none", x.undo(), -5);
        check.due("restore of none", x.restore(), -5);
        check.due("undo of none again", x.undo(), -5);
        check.isTrue("NONE changed something", before.equals(Check.picture(x)));
        check.due("captains", x.captains(), 1);
        check.due("restore of none behind an act", x.restore(), -5);
        check.due("undo", x.undo(), 0);
        check.due("undo of none behind it", x.undo(), -5);
        check.isTrue("undo leaves something", before.equals(Check.picture(x)));
        check.due("restore of none behind undo", x.restore(), -5);
    }
}
