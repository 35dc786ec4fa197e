import java.util.regex.Matcher;
import java.util.regex.Pattern;

/** Promises 3 and 8 to 10: type, clearText, fault, and the faults that captains() tells. */
final class TextsTest {
    private static final Check check = new Check("TextsTest");

    private static final String PART = "[0-2]:(p(1[01]|[0-9])|d[1-6]|f(1[0-9]|2[0-3]|[0-9])|h[01])+";
    private static final Pattern BELIEFS = Pattern.compile(PART + "(;" + PART + ")*");
    private static final String SIGNS = "0123456789:;pdfhx -";

    public static void main(String[] args) {
        typeAppends();
        typeTakesSixtyAndAnySign();
        clearTextEmpties();
        textIsNoStateAndTypingNoAct();
        sixtySignsWithAFault();
        sixtySignsWithoutAFault();
        faultsByHand();
        theLaterOneCounts();
        everySignAtEveryPlace();
        textsByChance();
        check.end();
    }

    private static void typeAppends() {
        CaptainTides x = new CaptainTides();
        String text = "0:p5;1:d3";
        for (int i = 0; i < text.length(); i++) {
            check.due("type", x.type(text.charAt(i)), i + 1);
            check.due("count 11", x.count(11), i + 1);
        }
        check.due("captains", x.captains(), 2);
        check.due("belief", x.captainOf(0, 0), 5);
        check.due("draft", x.captainOf(1, 1), 3);
    }

    private static void typeTakesSixtyAndAnySign() {
        CaptainTides x = new CaptainTides();
        char[] signs = {0, 127, 233, 255, 256, 0x0660, 0xd800, 0xffff};
        for (int i = 0; i < 60; i++) {
            check.due("type any sign", x.type(signs[i % signs.length]), i + 1);
        }
        check.due("type of a 61st sign", x.type('0'), -3);
        check.due("length", x.count(11), 60);
        check.due("clearText", x.clearText(), 60);
        for (char sign : signs) {
            Check.write(x, "0:p1");
            x.type(sign);
            check.due("fault of the sign " + (int) sign, x.fault(), 4);
        }
        String full = "0:p0p1p2p3p4p5p6p7p8p9p0p1p2p3p4p5p6p7p8p9p0p1p2p3p4p5p6;1:";
        Check.write(x, full.substring(0, 56) + ";2:h1");
        check.due("61 signs leave 60", x.count(11), 60);
        check.due("fault of the cut text", x.fault(), 60);
        Check.write(x, full.substring(0, 56) + "p7p8");
        check.due("fault of 60 signs", x.fault(), -5);
        check.due("captains of 60 signs", x.captains(), 1);
        check.due("belief", x.captainOf(0, 0), 8);
    }

    /** Eleven parts with a ";" behind each, which are 55 signs, and the end. */
    private static String withEnd(String end) {
        return "0:p1;".repeat(11) + end;
    }

    private static void sixtySignsWithAFault() {
        String[] ends = {"2:f24", "2:f2;", "2:f2d", "2:h1-", "2:h10", "2:d7p"};
        int[] faults = {59, 60, 60, 59, 59, 58};
        for (int i = 0; i < ends.length; i++) {
            CaptainTides x = Check.write(new CaptainTides(), withEnd(ends[i]));
            String before = Check.picture(x);
            check.due("length", x.count(11), 60);
            check.due("fault behind 55 signs of " + ends[i], x.fault(), faults[i]);
            check.due("captains behind 55 signs of " + ends[i], x.captains(), -100 - faults[i]);
            check.isTrue("a text with a fault changed something", before.equals(Check.picture(x)));
        }
    }

    private static void sixtySignsWithoutAFault() {
        CaptainTides x = Check.write(new CaptainTides(), withEnd("2:f23"));
        for (char sign : new char[] {'0', ';', 'p', 65535}) {
            check.due("type of a 61st sign", x.type(sign), -3);
        }
        check.due("length behind FULL", x.count(11), 60);
        check.due("fault behind FULL", x.fault(), -5);
        check.due("captains of twelve parts", x.captains(), 12);
        check.due("the first part", x.captainOf(0, 0), 1);
        check.due("the last sign", x.captainOf(2, 2), 23);
        check.due("clearText of 60", x.clearText(), 60);
        check.due("clearText of none", x.clearText(), 0);
        check.due("fault of the empty text", x.fault(), 0);
        check.due("captains of the empty text", x.captains(), -100);
        check.due("type behind 60", x.type('7'), 1);
    }

    private static void theLaterOneCounts() {
        CaptainTides x = Check.write(new CaptainTides(), "1:d6p11f23h0d1p0f0h1d5p10f20h0");
        check.due("captains with all of them three times", x.captains(), 1);
        int[] due = {10, 5, 20, 0};
        for (int what = 0; what < due.length; what++) {
            check.due("the later one of " + what, x.captainOf(1, what), due[what]);
        }
        Check.write(x, "1:p11d1;2:p3;1:p0");
        check.due("captains with a captain told twice", x.captains(), 3);
        check.due("the later part", x.captainOf(1, 0), 0);
        check.due("the former part", x.captainOf(1, 1), 1);
    }

    private static void clearTextEmpties() {
        CaptainTides x = new CaptainTides();
        check.due("clearText of none", x.clearText(), 0);
        Check.write(x, "1:f9");
        check.due("clearText", x.clearText(), 4);
        check.due("length", x.count(11), 0);
        check.due("fault", x.fault(), 0);
        check.due("type", x.type('1'), 1);
    }

    private static void textIsNoStateAndTypingNoAct() {
        CaptainTides x = new CaptainTides();
        Check.write(x, "1:f9");
        x.keep();
        check.due("history", x.count(10), 0);
        x.truth(3);
        Check.write(x, "1:f9d4");
        check.due("undo", x.undo(), 0);
        check.due("length after undo", x.count(11), 6);
        x.restore();
        check.due("length after restore", x.count(11), 6);
        check.due("history", x.count(10), 1);
    }

    private static void faultsByHand() {
        Object[][] faults = {
            {"", 0}, {"3", 0}, {":", 0}, {"p", 0}, {"0", 1}, {"0;", 1}, {"00", 1}, {"0:", 2}, {"0:x", 2}, {"0:P", 2},
            {"0:;", 2}, {"0:5", 2}, {"0:p", 3}, {"0:pp", 3}, {"0:p;", 3}, {"0:p-", 3}, {"0:p0", -5}, {"0:p00", 4},
            {"0:p01", 4}, {"0:p9", -5}, {"0:p10", -5}, {"0:p11", -5}, {"0:p12", 4}, {"0:p20", 4}, {"0:p110", 5},
            {"0:d0", 3}, {"0:d1", -5}, {"0:d6", -5}, {"0:d7", 3}, {"0:d10", 4}, {"0:d60", 4}, {"0:f0", -5},
            {"0:f05", 4}, {"0:f19", -5}, {"0:f20", -5}, {"0:f23", -5}, {"0:f24", 4}, {"0:f30", 4}, {"0:f190", 5},
            {"0:h0", -5}, {"0:h1", -5}, {"0:h2", 3}, {"0:h10", 4}, {"0:h01", 4}, {"0:h0;", 5}, {"0:h0;;", 5},
            {"0:h0;3", 5}, {"0:h0;0", 6}, {"0:h0;0:h1", -5}, {"0:h0:", 4}, {"0:h0 ", 4}, {"2:p1d1f1h1", -5},
            {";0:h0", 0}, {" 0:h0", 0}, {"0:h1x", 4}, {"0:h0;0:", 7}, {"0:h0;0:p", 8}, {"0:h0;0:p1;", 10},
            {"0:h0;0:p1d", 10}, {"0:p1;0:p12", 9}, {"0:p0d1", -5}, {"0:f0h0p0", -5}, {"0:p2", -5}, {"0:f2", -5},
            {"0:f3", -5}, {"0:f9", -5}, {"0:d05", 3}, {"0:h00", 4}, {"0:f00", 4}, {"2:h1", -5}, {"-1:h1", 0},
        };
        for (Object[] row : faults) {
            String text = (String) row[0];
            CaptainTides x = Check.write(new CaptainTides(), text);
            check.due("fault of '" + text + "'", x.fault(), (Integer) row[1]);
            check.due("fault told twice", x.fault(), (Integer) row[1]);
        }
    }

    /** A text can still become one of beliefs, if the pattern fits it or ran into its end. */
    private static int faultOf(String text) {
        for (int i = 1; i <= text.length(); i++) {
            Matcher matcher = BELIEFS.matcher(text.substring(0, i));
            if (!matcher.matches() && !matcher.hitEnd()) {
                return i - 1;
            }
        }
        return BELIEFS.matcher(text).matches() ? -5 : text.length();
    }

    private static void compare(String text) {
        CaptainTides x = Check.write(new CaptainTides(), text);
        int fault = faultOf(text);
        check.due("fault of '" + text + "'", x.fault(), fault);
        if (fault != -5) {
            check.due("captains of '" + text + "'", x.captains(), -100 - fault);
        } else {
            check.due("captains of '" + text + "'", x.captains(), text.split(";").length);
        }
    }

    private static void everySignAtEveryPlace() {
        String text = "0:p11d6f23h1p0;2:f19f0f9d1;1:h0p10";
        for (int i = 0; i <= text.length(); i++) {
            for (char sign = 0; sign < 256; sign++) {
                compare(text.substring(0, i) + sign);
                compare(text.substring(0, i) + sign + text.substring(Math.min(i + 1, text.length())));
            }
        }
    }

    private static void textsByChance() {
        Chance chance = new Chance(7);
        for (int i = 0; i < 20000; i++) {
            StringBuilder text = new StringBuilder();
            int length = chance.below(61);
            while (text.length() < length) {
                char sign = SIGNS.charAt(chance.below(SIGNS.length()));
                text.append(sign);
                // Most signs that spoil the text are taken back, so that long texts come about too.
                if (faultOf(text.toString()) == text.length() - 1 && chance.below(40) > 0) {
                    text.setLength(text.length() - 1);
                }
            }
            compare(text.toString());
        }
    }
}
