/** All promises at once: long runs of calls by chance, answered by the class and by the model. */
final class ModelTest {
    private static final Check check = new Check("ModelTest");

    private static final String[] TEXTS = {"0:p1", "1:d6f0;", "2:h1p11d1f20", "0:p10h0;1:p10h0;2:p10h0", "1:f23;0:f24",
        "2:d2d3d4", "0:p3f1;0:d5;0:p4", ":", "1:h", "0:d1f0h0;1:d1f0h0;2:d1f0h0"};

    /** No comparison makes more calls of the object: the longest of these texts is typed with 26. */
    private static final int MOST_CALLS_AT_ONCE = 34;

    private final Chance chance;
    private final CaptainTides x = new CaptainTides();
    private final Model model = new Model();
    /** Of the object; beyond 512 of them nothing is promised. */
    private int calls = 0;

    private ModelTest(long seed) {
        chance = new Chance(seed);
    }

    public static void main(String[] args) {
        for (int run = 0; run < 600; run++) {
            new ModelTest(run).compareRun();
        }
        check.end();
    }

    private void compareRun() {
        while (calls + MOST_CALLS_AT_ONCE <= 512) {
            int kind = chance.below(100);
            if (kind < 45) {
                compareAct();
                calls++;
            } else if (kind < 55) {
                compareText();
            } else {
                compareTold();
                calls += 2;
            }
        }
    }

    /** Mostly a number from 0 to one less than the bound, at times one beside it or far from it. */
    private int about(int bound) {
        switch (chance.below(24)) {
            case 0:
                return -1;
            case 1:
                return bound;
            case 2:
                return chance.below(2) == 0 ? Integer.MIN_VALUE : Integer.MAX_VALUE;
            default:
                return chance.below(bound);
        }
    }

    private void compareAct() {
        int a = about(3);
        int b = about(4);
        switch (chance.below(12)) {
            case 0:
            case 1:
            case 2:
            case 3:
                int value = about(b == 0 ? 12 : b == 1 ? 7 : b == 2 ? 24 : 2);
                check.due("captain " + a + " " + b + " " + value, x.captain(a, b, value), model.captain(a, b, value));
                break;
            case 4:
                int phase = about(12);
                check.due("truth " + phase, x.truth(phase), model.truth(phase));
                break;
            case 5:
                int which = about(2);
                int setting = about(which == 0 ? 2 : 10);
                check.due("set " + which + " " + setting, x.set(which, setting), model.set(which, setting));
                break;
            case 6:
                int lot = about(65537);
                check.due("lot " + lot, x.lot(lot), model.lot(lot));
                break;
            case 7:
                int days = about(chance.below(8) == 0 ? 31 : 3);
                check.due("sail " + days, x.sail(days), model.sail(days));
                break;
            case 8:
                check.due("undo", x.undo(), model.undo());
                break;
            case 9:
                check.due("keep", x.keep(), model.keep());
                break;
            case 10:
                check.due("restore", x.restore(), model.restore());
                break;
            default:
                check.due("captains", x.captains(), model.captains());
                break;
        }
    }

    private void compareText() {
        if (chance.below(3) == 0) {
            char sign = (char) (chance.below(6) == 0 ? chance.below(65536) : 48 + chance.below(12));
            check.due("type " + (int) sign, x.type(sign), model.type(sign));
            calls++;
        } else {
            if (chance.below(4) > 0) {
                check.due("clearText", x.clearText(), model.clearText());
            }
            for (char sign : TEXTS[chance.below(TEXTS.length)].toCharArray()) {
                check.due("type " + sign, x.type(sign), model.type(sign));
                calls++;
            }
            check.due("captains", x.captains(), model.captains());
            calls += 2;
        }
        check.due("fault", x.fault(), model.fault());
        calls++;
    }

    private void compareTold() {
        int captain = about(3);
        switch (chance.below(12)) {
            case 0:
            case 1:
                int number = about(11);
                check.due("captainOf " + captain, x.captainOf(captain, number), model.captainOf(captain, number));
                break;
            case 2:
                int crossing = about(8);
                int of = about(2);
                check.due("printed", x.printed(captain, crossing, of), model.printed(captain, crossing, of));
                break;
            case 3:
                int tide = about(4);
                int hour = about(24);
                int way = about(2);
                check.due("level", x.level(tide, hour, way), model.level(tide, hour, way));
                break;
            case 4:
                int pier = about(2);
                int used = about(24);
                check.due("uses", x.uses(pier, used), model.uses(pier, used));
                break;
            case 5:
                int clash = about(1 + Math.max(0, x.count(3)));
                int told = about(3);
                check.due("clash", x.clash(clash, told), model.clash(clash, told));
                break;
            case 6:
                int kind = about(3);
                check.due("hours", x.hours(captain, kind), model.hours(captain, kind));
                break;
            case 7:
            case 8:
                int what = about(14);
                check.due("count " + what, x.count(what), model.count(what));
                break;
            case 9:
                int next = about(6);
                check.due("ifSailed " + next, x.ifSailed(next), model.ifSailed(next));
                check.due("made", x.made(), model.made());
                break;
            case 10:
                check.due("bestHour", x.bestHour(captain), model.bestHour(captain));
                break;
            default:
                check.due("bestPhase", x.bestPhase(captain), model.bestPhase(captain));
                break;
        }
    }
}
