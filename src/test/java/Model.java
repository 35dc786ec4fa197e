import java.util.ArrayList;
import java.util.List;
import java.util.regex.Pattern;

/**
 * The document once more, told in another way than the class: new lists for every question, a whole
 * copy for every state, and a log of what happens in a day. It is slow, and only to compare with.
 */
final class Model {
    private static final String PART = "[0-2]:(p(1[01]|[0-9])|d[1-6]|f(1[0-9]|2[0-3]|[0-9])|h[01])+";
    private static final Pattern BELIEFS = Pattern.compile(PART + "(;" + PART + ")*");

    private static final String LETTERS = "pdfh";
    private static final int[] LEAST = {0, 1, 0, 0};
    private static final int[] GREATEST = {11, 6, 23, 1};

    /** Rows of a captain: 0 to 3 as for captain(), 5 to 10 as for captainOf(). */
    private int[][] captains = {{0, 2, 6, 0, 0, 0, 0, 0, 0, 0, 0}, {4, 2, 6, 1, 0, 0, 0, 0, 0, 0, 0},
        {8, 2, 6, 0, 0, 0, 0, 0, 0, 0, 0}};
    /** The day, the true phase, the lot, the lots drawn and the two settings. */
    private int[] whole = {0, 0, 1, 0, 1, 3};

    private final List<int[][]> history = new ArrayList<>();
    private int[][] snapshot = null;
    private String text = "";

    // ---- states

    private int[][] copy() {
        return new int[][] {captains[0].clone(), captains[1].clone(), captains[2].clone(), whole.clone()};
    }

    private void become(int[][] state) {
        captains = new int[][] {state[0].clone(), state[1].clone(), state[2].clone()};
        whole = state[3].clone();
    }

    private void record() {
        history.add(copy());
        if (history.size() > 4) {
            history.remove(0);
        }
    }

    int undo() {
        if (history.isEmpty()) {
            return -5;
        }
        become(history.remove(history.size() - 1));
        return history.size();
    }

    int keep() {
        snapshot = copy();
        return whole[0];
    }

    int restore() {
        if (snapshot == null) {
            return -5;
        }
        record();
        become(snapshot);
        return whole[0];
    }

    // ---- acts

    private static boolean within(int value, int least, int greatest) {
        return least <= value && value <= greatest;
    }

    private int change(int[] row, int index, int value) {
        int previous = row[index];
        if (previous == value) {
            return -5;
        }
        record();
        row[index] = value;
        return previous;
    }

    int captain(int captain, int what, int value) {
        if (!within(captain, 0, 2)) {
            return -1;
        }
        if (!within(what, 0, 3) || !within(value, LEAST[what], GREATEST[what])) {
            return -2;
        }
        return change(captains[captain], what, value);
    }

    int truth(int phase) {
        return within(phase, 0, 11) ? change(whole, 1, phase) : -2;
    }

    int set(int which, int value) {
        if (which == 0 && within(value, 0, 1) || which == 1 && within(value, 1, 9)) {
            return change(whole, 4 + which, value);
        }
        return -2;
    }

    int lot(int x) {
        return within(x, 0, 65536) ? change(whole, 2, x) : -2;
    }

    int captains() {
        if (fault() != -5) {
            return -100 - fault();
        }
        record();
        String[] parts = text.split(";");
        for (String part : parts) {
            int captain = part.charAt(0) - '0';
            for (String item : part.substring(2).split("(?=[pdfh])")) {
                captains[captain][LETTERS.indexOf(item.charAt(0))] = Integer.parseInt(item.substring(1));
            }
        }
        return parts.length;
    }

    int sail(int days) {
        if (!within(days, 1, 30)) {
            return -2;
        }
        if (whole[0] + days > 9999) {
            return -3;
        }
        record();
        int made = 0;
        for (int i = 0; i < days; i++) {
            Day day = new Day();
            made += day.sum(day.made);
            for (int c = 0; c < 3; c++) {
                int[] more = {day.made[c], day.aground[c], day.late[c], day.pardoned[c], day.cancelled[c]};
                for (int k = 0; k < more.length; k++) {
                    captains[c][5 + k] += more[k];
                }
            }
            whole[0]++;
            whole[1] = (whole[1] + whole[4]) % 12;
            whole[2] = day.lot;
            whole[3] += day.lots;
            for (int c = 0; c < 3; c++) {
                if (day.aground[c] >= whole[5]) {
                    captains[c][0] = whole[1];
                    captains[c][10]++;
                }
            }
        }
        return made;
    }

    // ---- texts

    int type(char sign) {
        if (text.length() == 60) {
            return -3;
        }
        text = text + sign;
        return text.length();
    }

    int clearText() {
        int length = text.length();
        text = "";
        return length;
    }

    /** The longest start of the text that something can make a whole one; what is missing is but short. */
    int fault() {
        if (BELIEFS.matcher(text).matches()) {
            return -5;
        }
        String[] ends = {"", "1", "0:p1", ":p1", "p1"};
        for (int length = text.length(); length > 0; length--) {
            for (String end : ends) {
                if (BELIEFS.matcher(text.substring(0, length) + end).matches()) {
                    return length;
                }
            }
        }
        return 0;
    }

    // ---- what is told

    private static int water(int phase, int hour) {
        int hours = (hour + phase) % 12;
        return hours < 6 ? 6 - hours : hours - 6;
    }

    private List<Integer> timetable(int[] captain) {
        List<Integer> hours = new ArrayList<>();
        int hour = captain[2];
        while (true) {
            while (water(captain[0], hour) < captain[1]) {
                hour++;
            }
            if (hour + 2 > 23) {
                return hours;
            }
            hours.add(hour);
            hour += 3;
        }
    }

    int captainOf(int captain, int what) {
        if (!within(captain, 0, 2)) {
            return -1;
        }
        if (!within(what, 0, 10)) {
            return -2;
        }
        return what == 4 ? timetable(captains[captain]).size() : captains[captain][what];
    }

    int printed(int captain, int crossing, int what) {
        if (!within(captain, 0, 2) || !within(crossing, 0, timetable(captains[captain]).size() - 1)) {
            return -1;
        }
        if (!within(what, 0, 1)) {
            return -2;
        }
        int pier = crossing % 2 == 0 ? captains[captain][3] : 1 - captains[captain][3];
        return what == 0 ? timetable(captains[captain]).get(crossing) : pier;
    }

    int level(int tide, int hour, int way) {
        if (!within(tide, 0, 3) || !within(hour, 0, 23)) {
            return -1;
        }
        return within(way, 0, 1) ? water(tide == 3 ? whole[1] : captains[tide][0], hour) : -2;
    }

    int uses(int pier, int hour) {
        if (!within(pier, 0, 1) || !within(hour, 0, 23)) {
            return -1;
        }
        int set = 0;
        for (int c = 0; c < 3; c++) {
            int at = captains[c][3];
            for (int departure : timetable(captains[c])) {
                if (departure == hour && at == pier || departure + 2 == hour && 1 - at == pier) {
                    set |= 1 << c;
                }
                at = 1 - at;
            }
        }
        return set;
    }

    private List<int[]> clashes() {
        List<int[]> clashes = new ArrayList<>();
        for (int hour = 0; hour < 24; hour++) {
            for (int pier = 0; pier < 2; pier++) {
                int set = uses(pier, hour);
                if (set == 3 || set == 5 || set == 6 || set == 7) {
                    clashes.add(new int[] {hour, pier, set});
                }
            }
        }
        return clashes;
    }

    int clash(int clash, int what) {
        if (!within(clash, 0, clashes().size() - 1)) {
            return -1;
        }
        return within(what, 0, 2) ? clashes().get(clash)[what] : -2;
    }

    int hours(int captain, int what) {
        if (!within(captain, 0, 2)) {
            return -1;
        }
        if (!within(what, 0, 2)) {
            return -2;
        }
        int set = 0;
        for (int hour = 0; hour < 24; hour++) {
            boolean believed = water(captains[captain][0], hour) >= captains[captain][1];
            boolean actual = water(whole[1], hour) >= captains[captain][1];
            if (what == 0 ? believed : what == 1 ? actual : believed != actual) {
                set += 1 << hour;
            }
        }
        return set;
    }

    private int total(int what) {
        return captainOf(0, what) + captainOf(1, what) + captainOf(2, what);
    }

    int count(int what) {
        if (!within(what, 0, 13)) {
            return -2;
        }
        int[] told = {whole[0], whole[1], whole[2], clashes().size(), total(4), total(5), total(9), whole[3],
            total(6), total(7), history.size(), text.length(), whole[4], whole[5]};
        return told[what];
    }

    float made() {
        float made = total(5);
        float all = total(5) + total(9);
        return all == 0 ? 1.0f : made / all;
    }

    // ---- what would be

    int ifSailed(int what) {
        if (!within(what, 0, 5)) {
            return -2;
        }
        Day day = new Day();
        int learners = 0;
        for (int c = 0; c < 3; c++) {
            learners += day.aground[c] >= whole[5] ? 1 << c : 0;
        }
        int[] told = {day.sum(day.made), day.sum(day.cancelled), day.sum(day.aground), day.sum(day.late), day.lots,
            learners};
        return told[what];
    }

    int bestHour(int captain) {
        if (!within(captain, 0, 2)) {
            return -1;
        }
        int kept = captains[captain][2];
        int best = 0;
        int worth = Integer.MIN_VALUE;
        for (int hour = 23; hour >= 0; hour--) {
            captains[captain][2] = hour;
            int its = -100 * clashes().size() + captainOf(captain, 4);
            if (its >= worth) {
                best = hour;
                worth = its;
            }
        }
        captains[captain][2] = kept;
        return best;
    }

    int bestPhase(int captain) {
        if (!within(captain, 0, 2)) {
            return -1;
        }
        int kept = captains[captain][0];
        int best = 0;
        int most = -1;
        for (int phase = 11; phase >= 0; phase--) {
            captains[captain][0] = phase;
            int made = ifSailed(0);
            if (made >= most) {
                best = phase;
                most = made;
            }
        }
        captains[captain][0] = kept;
        return best;
    }

    /** The next day, sailed from the state as it is now. */
    private final class Day {
        final int[] made = new int[3];
        final int[] aground = new int[3];
        final int[] late = new int[3];
        final int[] pardoned = new int[3];
        final int[] cancelled = new int[3];
        int lot = whole[2];
        int lots = 0;

        /** Where each ferry is in each hour: a pier, or 2 at sea. */
        private final int[][] where = new int[3][27];
        /** Whether it arrived in an hour. */
        private final boolean[][] arrives = new boolean[3][27];

        Day() {
            for (int c = 0; c < 3; c++) {
                for (int hour = 0; hour < 27; hour++) {
                    where[c][hour] = captains[c][3];
                }
            }
            for (int hour = 0; hour < 24; hour++) {
                sailHour(hour);
            }
            for (int c = 0; c < 3; c++) {
                cancelled[c] = timetable(captains[c]).size() - made[c];
            }
        }

        private void sailHour(int hour) {
            List<List<Integer>> wanting = List.of(new ArrayList<>(), new ArrayList<>());
            for (int c = 0; c < 3; c++) {
                List<Integer> hours = timetable(captains[c]);
                boolean open = made[c] < hours.size() && hours.get(made[c]) <= hour;
                if (where[c][hour] == 2 || !open || hour + 2 > 23) {
                    continue;
                }
                if (water(whole[1], hour) < captains[c][1]) {
                    aground[c]++;
                } else {
                    wanting.get(where[c][hour]).add(c);
                }
            }
            for (int pier = 0; pier < 2; pier++) {
                give(pier, hour, wanting.get(pier));
            }
        }

        private void give(int pier, int hour, List<Integer> wanting) {
            for (int c = 0; c < 3; c++) {
                if (arrives[c][hour] && where[c][hour] == pier) {
                    wanting.forEach(each -> late[each]++);
                    return;
                }
            }
            if (wanting.size() == 1) {
                go(wanting.get(0), pier, hour);
            } else if (wanting.size() > 1) {
                lot = (75 * lot + 74) % 65537;
                lots++;
                go(wanting.remove(lot % wanting.size()), pier, hour);
                wanting.forEach(each -> late[each]++);
                wanting.forEach(each -> pardoned[each]++);
            }
        }

        private void go(int captain, int pier, int hour) {
            made[captain]++;
            where[captain][hour + 1] = 2;
            for (int later = hour + 2; later < 27; later++) {
                where[captain][later] = 1 - pier;
            }
            arrives[captain][hour + 2] = true;
        }

        int sum(int[] row) {
            return row[0] + row[1] + row[2];
        }
    }
}
