/** A ferry timetable printed by three captains who each trust only their tide. */
public final class CaptainTides {
    /** There is no such captain, hour, crossing or pier. */
    public static final int UNKNOWN = -1;
    /** Another argument is out of range. */
    public static final int BAD_VALUE = -2;
    /** There is no more room. */
    public static final int FULL = -3;
    /** There is no such thing; not an error. */
    public static final int NONE = -5;

    private static final int CAPTAINS = 3;
    private static final int PIERS = 2;
    private static final int HOURS = 24;
    private static final int PHASES = 12;
    private static final int HIGHEST_LEVEL = 6;
    private static final int CROSSING_TIME = 2;
    private static final int LEAST_GAP = 3;
    private static final int LAST_DEPARTURE = HOURS - 1 - CROSSING_TIME;
    private static final int MOST_CROSSINGS = 8;
    private static final int LOTS = 65537;
    private static final int MOST_DAYS = 30;
    private static final int LAST_DAY = 9999;
    private static final int TEXT_ROOM = 60;

    // What can be told of a captain.
    private static final int BELIEF = 0;
    private static final int DRAFT = 1;
    private static final int FIRST_HOUR = 2;
    private static final int HOME = 3;
    private static final int PRINTED = 4;
    private static final int MADE = 5;
    private static final int AGROUND = 6;
    private static final int LATE = 7;
    private static final int PARDONED = 8;
    private static final int CANCELLED = 9;
    private static final int LEARNT = 10;

    private static final int[] LEAST_OF_CAPTAIN = {0, 1, 0, 0};
    private static final int[] GREATEST_OF_CAPTAIN = {11, 6, 23, 1};

    private static final int DRIFT = 0;
    private static final int HOURS_TO_LEARN = 1;
    private static final int[] LEAST_OF_SETTING = {0, 1};
    private static final int[] GREATEST_OF_SETTING = {1, 9};

    private final State now = new State();
    private final State snapshot = new State();
    private boolean hasSnapshot = false;
    /** The oldest state first; it keeps as many as it has rows. */
    private final State[] history = {new State(), new State(), new State(), new State()};
    private int recorded = 0;
    private final BeliefText text = new BeliefText();

    // These hold no state between calls: they are made once so that no call has to make them.
    private final State trial = new State();
    private final Board board = new Board();
    private final SailedDay sailed = new SailedDay();

    /** Creates captains, ahead of the day 0, with the lot 1. */
    public CaptainTides() {
    }

    // ---- captains

    /** Changes something of a captain. This is an act. */
    public int captain(int captain, int what, int value) {
        if (!isCaptain(captain)) {
            return UNKNOWN;
        }
        if (!isValueOfCaptain(what, value)) {
            return BAD_VALUE;
        }
        int previous = now.captains[captain].tell(what);
        if (previous == value) {
            return NONE;
        }
        record();
        now.captains[captain].change(what, value);
        return previous;
    }

    /** Changes what the text tells, which stays, part by part. This is one act. */
    public int captains() {
        trial.copyFrom(now);
        int fault = text.readInto(trial);
        if (fault != NONE) {
            return -100 - fault;
        }
        record();
        now.copyFrom(trial);
        return text.parts;
    }

    /** Changes the true tide. This is an act. */
    public int truth(int phase) {
        if (phase < 0 || phase >= PHASES) {
            return BAD_VALUE;
        }
        int previous = now.phase;
        if (previous == phase) {
            return NONE;
        }
        record();
        now.phase = phase;
        return previous;
    }

    /** Sets a setting. This is an act. */
    public int set(int which, int value) {
        if (!isValueOfSetting(which, value)) {
            return BAD_VALUE;
        }
        int previous = now.tellSetting(which);
        if (previous == value) {
            return NONE;
        }
        record();
        now.changeSetting(which, value);
        return previous;
    }

    /** Changes the lot. This is an act. */
    public int lot(int x) {
        if (x < 0 || x >= LOTS) {
            return BAD_VALUE;
        }
        int previous = now.lot;
        if (previous == x) {
            return NONE;
        }
        record();
        now.lot = x;
        return previous;
    }

    /** Sails days. This is an act. */
    public int sail(int days) {
        if (days < 1 || days > MOST_DAYS) {
            return BAD_VALUE;
        }
        if (now.day + days > LAST_DAY) {
            return FULL;
        }
        record();
        int crossings = 0;
        for (int i = 0; i < days; i++) {
            sailed.run(now);
            now.endDay(sailed);
            crossings += sailed.sumOf(MADE);
        }
        return crossings;
    }

    // ---- texts

    /** Appends a character to the text. */
    public int type(char character) {
        return text.append(character) ? text.length : FULL;
    }

    /** Empties the text. */
    public int clearText() {
        int previous = text.length;
        text.length = 0;
        return previous;
    }

    /** Tells the fault of the text. */
    public int fault() {
        return text.readInto(trial);
    }

    // ---- history

    /** Removes and restores the latest state of the history. */
    public int undo() {
        int latest = recorded - 1;
        if (latest < 0 || latest >= history.length) {
            return NONE;
        }
        now.copyFrom(history[latest]);
        recorded = latest;
        return recorded;
    }

    /** Takes a snapshot of the state, in place of the one that was. */
    public int keep() {
        snapshot.copyFrom(now);
        hasSnapshot = true;
        return now.day;
    }

    /** Restores the state of the snapshot, which stays. This is an act. */
    public int restore() {
        if (!hasSnapshot) {
            return NONE;
        }
        record();
        now.copyFrom(snapshot);
        return now.day;
    }

    // ---- what is told

    /** Tells something of a captain. */
    public int captainOf(int captain, int what) {
        if (!isCaptain(captain)) {
            return UNKNOWN;
        }
        if (what < BELIEF || what > LEARNT) {
            return BAD_VALUE;
        }
        return what == PRINTED ? timetableOf(captain).crossings : now.captains[captain].tell(what);
    }

    /** Tells a printed crossing. */
    public int printed(int captain, int crossing, int what) {
        if (!isCaptain(captain)) {
            return UNKNOWN;
        }
        Timetable timetable = timetableOf(captain);
        if (!timetable.has(crossing)) {
            return UNKNOWN;
        }
        switch (what) {
            case 0:
                return timetable.hourOf(crossing);
            case 1:
                return timetable.pierOf(crossing);
            default:
                return BAD_VALUE;
        }
    }

    /** Tells a level. */
    public int level(int tide, int hour, int way) {
        boolean isTide = isCaptain(tide) || tide == CAPTAINS;
        if (!isTide || hour < 0 || hour >= HOURS) {
            return UNKNOWN;
        }
        int phase = isCaptain(tide) ? now.captains[tide].belief : now.phase;
        switch (way) {
            case 0:
                return levelAt(phase, hour);
            case 1:
                return levelReached(phase, hour);
            default:
                return BAD_VALUE;
        }
    }

    /** Tells which timetables use a pier in an hour. */
    public int uses(int pier, int hour) {
        if (pier < 0 || pier >= PIERS || hour < 0 || hour >= HOURS) {
            return UNKNOWN;
        }
        board.print(now);
        return board.usersAt(Board.placeOf(hour, pier));
    }

    /** Tells a clash: they are in the order of their hours, of like hours that of the pier 0 first. */
    public int clash(int clash, int what) {
        board.print(now);
        int place = board.placeOfClash(clash);
        if (place == NONE) {
            return UNKNOWN;
        }
        switch (what) {
            case 0:
                return place / PIERS;
            case 1:
                return place % PIERS;
            case 2:
                return board.usersAt(place);
            default:
                return BAD_VALUE;
        }
    }

    /** Tells the hours in which a captain believes that the water is enough, or in which it is. */
    public int hours(int captain, int what) {
        if (!isCaptain(captain)) {
            return UNKNOWN;
        }
        Captain asked = now.captains[captain];
        int believed = hoursWithWater(asked.belief, asked.draft);
        int actual = hoursWithWater(now.phase, asked.draft);
        switch (what) {
            case 0:
                return believed;
            case 1:
                return actual;
            case 2:
                return believed ^ actual;
            default:
                return BAD_VALUE;
        }
    }

    /** Tells a number of the whole. */
    public int count(int what) {
        switch (what) {
            case 0:
                return now.day;
            case 1:
                return now.phase;
            case 2:
                return now.lot;
            case 3:
                board.print(now);
                return board.clashes();
            case 4:
                board.print(now);
                return board.crossings();
            case 5:
                return now.sumOf(MADE);
            case 6:
                return now.sumOf(CANCELLED);
            case 7:
                return now.lotsDrawn;
            case 8:
                return now.sumOf(AGROUND);
            case 9:
                return now.sumOf(LATE);
            case 10:
                return recorded;
            case 11:
                return text.length;
            case 12:
                return now.tellSetting(DRIFT);
            case 13:
                return now.tellSetting(HOURS_TO_LEARN);
            default:
                return BAD_VALUE;
        }
    }

    /** Tells the share of crossings that were made. */
    public float made() {
        int crossings = now.sumOf(MADE);
        int all = crossings + now.sumOf(CANCELLED);
        return all > 0 ? (float) crossings / (float) all : 1.0f;
    }

    // ---- what would be

    /** Tells what the next day would bring. */
    public int ifSailed(int what) {
        sailed.run(now);
        switch (what) {
            case 0:
                return sailed.sumOf(MADE);
            case 1:
                return sailed.sumOf(CANCELLED);
            case 2:
                return sailed.sumOf(AGROUND);
            case 3:
                return sailed.sumOf(LATE);
            case 4:
                return sailed.lotsDrawn;
            case 5:
                return sailed.learners(now.hoursToLearn);
            default:
                return BAD_VALUE;
        }
    }

    /** Finds the first hour with the fewest clashes, then the most crossings of this captain, then the lowest. */
    public int bestHour(int captain) {
        if (!isCaptain(captain)) {
            return UNKNOWN;
        }
        trial.copyFrom(now);
        int best = 0;
        int fewestClashes = HOURS * PIERS + 1;
        int mostCrossings = 0;
        for (int hour = 0; hour < HOURS; hour++) {
            trial.captains[captain].firstHour = hour;
            board.print(trial);
            int clashes = board.clashes();
            int crossings = board.timetables[captain].crossings;
            if (clashes < fewestClashes || (clashes == fewestClashes && crossings > mostCrossings)) {
                best = hour;
                fewestClashes = clashes;
                mostCrossings = crossings;
            }
        }
        return best;
    }

    /** Finds the believed phase with which the most crossings would be made by all, then the lowest. */
    public int bestPhase(int captain) {
        if (!isCaptain(captain)) {
            return UNKNOWN;
        }
        trial.copyFrom(now);
        int best = 0;
        int mostCrossings = -1;
        for (int phase = 0; phase < PHASES; phase++) {
            trial.captains[captain].belief = phase;
            sailed.run(trial);
            int crossings = sailed.sumOf(MADE);
            if (crossings > mostCrossings) {
                best = phase;
                mostCrossings = crossings;
            }
        }
        return best;
    }

    // ---- helpers

    private static boolean isCaptain(int captain) {
        return captain >= 0 && captain < CAPTAINS;
    }

    private static boolean isValueOfCaptain(int what, int value) {
        return isWithin(LEAST_OF_CAPTAIN, GREATEST_OF_CAPTAIN, what, value);
    }

    private static boolean isValueOfSetting(int which, int value) {
        return isWithin(LEAST_OF_SETTING, GREATEST_OF_SETTING, which, value);
    }

    private static boolean isWithin(int[] least, int[] greatest, int index, int value) {
        return index >= 0 && index < least.length && index < greatest.length
                && value >= least[index] && value <= greatest[index];
    }

    private static int levelAt(int phase, int hour) {
        return Math.abs((hour + phase) % PHASES - HIGHEST_LEVEL);
    }

    /** The same level as levelAt, but told by going from hour to hour. */
    private static int levelReached(int phase, int hour) {
        int level = levelAt(phase, 0);
        boolean falling = phase < HIGHEST_LEVEL;
        for (int h = 0; h < hour; h++) {
            level += falling ? -1 : 1;
            if (level == 0) {
                falling = false;
            } else if (level == HIGHEST_LEVEL) {
                falling = true;
            }
        }
        return level;
    }

    private static int hoursWithWater(int phase, int draft) {
        int set = 0;
        for (int hour = 0; hour < HOURS; hour++) {
            if (levelAt(phase, hour) >= draft) {
                set |= 1 << hour;
            }
        }
        return set;
    }

    private Timetable timetableOf(int captain) {
        board.print(now);
        return board.timetables[captain];
    }

    /** Puts the state as it is at the end of the history; when that is full, the oldest one makes room. */
    private void record() {
        if (recorded >= history.length) {
            State oldest = history[0];
            for (int i = 1; i < history.length; i++) {
                history[i - 1] = history[i];
            }
            history[history.length - 1] = oldest;
            recorded = history.length - 1;
        }
        history[recorded].copyFrom(now);
        recorded++;
    }

    /** A captain with what it believes and what came of it so far. */
    private static final class Captain {
        int belief;
        int draft = 2;
        int firstHour = 6;
        int home;
        int crossingsMade = 0;
        int hoursAground = 0;
        int hoursLate = 0;
        int pardons = 0;
        int crossingsCancelled = 0;
        int lessons = 0;

        Captain(int number) {
            belief = 4 * number;
            home = number % PIERS;
        }

        int tell(int what) {
            switch (what) {
                case BELIEF:
                    return belief;
                case DRAFT:
                    return draft;
                case FIRST_HOUR:
                    return firstHour;
                case HOME:
                    return home;
                case MADE:
                    return crossingsMade;
                case AGROUND:
                    return hoursAground;
                case LATE:
                    return hoursLate;
                case PARDONED:
                    return pardons;
                case CANCELLED:
                    return crossingsCancelled;
                case LEARNT:
                    return lessons;
                default:
                    return 0;
            }
        }

        void change(int what, int value) {
            switch (what) {
                case BELIEF:
                    belief = value;
                    break;
                case DRAFT:
                    draft = value;
                    break;
                case FIRST_HOUR:
                    firstHour = value;
                    break;
                case HOME:
                    home = value;
                    break;
                default:
                    break;
            }
        }

        void endDay(Ferry ferry) {
            crossingsMade += ferry.crossingsMade;
            hoursAground += ferry.hoursAground;
            hoursLate += ferry.hoursLate;
            pardons += ferry.pardons;
            crossingsCancelled += ferry.crossingsLeft();
        }

        void learn(int phase) {
            belief = phase;
            lessons++;
        }

        void copyFrom(Captain other) {
            belief = other.belief;
            draft = other.draft;
            firstHour = other.firstHour;
            home = other.home;
            crossingsMade = other.crossingsMade;
            hoursAground = other.hoursAground;
            hoursLate = other.hoursLate;
            pardons = other.pardons;
            crossingsCancelled = other.crossingsCancelled;
            lessons = other.lessons;
        }
    }

    /** Everything but the text, the history and the snapshot. */
    private static final class State {
        final Captain[] captains = {new Captain(0), new Captain(1), new Captain(2)};
        int drift = 1;
        int hoursToLearn = 3;
        int phase = 0;
        int lot = 1;
        int lotsDrawn = 0;
        int day = 0;

        int sumOf(int what) {
            int sum = 0;
            for (Captain captain : captains) {
                sum += captain.tell(what);
            }
            return sum;
        }

        void endDay(SailedDay sailed) {
            day++;
            lot = sailed.lot;
            lotsDrawn += sailed.lotsDrawn;
            phase = (phase + drift) % PHASES;
            for (int c = 0; c < CAPTAINS; c++) {
                Ferry ferry = sailed.ferries[c];
                captains[c].endDay(ferry);
                if (ferry.isLesson(hoursToLearn)) {
                    captains[c].learn(phase);
                }
            }
        }

        int tellSetting(int which) {
            return which == DRIFT ? drift : hoursToLearn;
        }

        void changeSetting(int which, int value) {
            if (which == DRIFT) {
                drift = value;
            } else {
                hoursToLearn = value;
            }
        }

        void copyFrom(State other) {
            for (int c = 0; c < CAPTAINS; c++) {
                captains[c].copyFrom(other.captains[c]);
            }
            drift = other.drift;
            hoursToLearn = other.hoursToLearn;
            phase = other.phase;
            lot = other.lot;
            lotsDrawn = other.lotsDrawn;
            day = other.day;
        }
    }

    /** What one captain prints by its belief. */
    private static final class Timetable {
        final int[] hours = new int[MOST_CROSSINGS];
        int crossings = 0;
        int home = 0;

        void print(Captain captain) {
            home = captain.home;
            crossings = 0;
            int earliest = captain.firstHour;
            // Every hour beyond the last departure arrives too late, so the first such crossing ends the timetable.
            for (int hour = captain.firstHour; hour <= LAST_DEPARTURE; hour++) {
                boolean departs = hour >= earliest && levelAt(captain.belief, hour) >= captain.draft;
                if (departs && crossings < hours.length) {
                    hours[crossings] = hour;
                    crossings++;
                    earliest = hour + LEAST_GAP;
                }
            }
        }

        boolean has(int crossing) {
            return crossing >= 0 && crossing < crossings && crossing < hours.length;
        }

        int hourOf(int crossing) {
            return has(crossing) ? hours[crossing] : NONE;
        }

        /** Every crossing changes the pier, so that only odd and even ones differ. */
        int pierOf(int crossing) {
            return (home + crossing) % PIERS;
        }
    }

    /** The timetables of all captains, and who uses which pier when by them. */
    private static final class Board {
        final Timetable[] timetables = {new Timetable(), new Timetable(), new Timetable()};

        /** A set of captains for each hour and pier, in the order in which clashes are told. */
        final int[] users = new int[HOURS * PIERS];

        static int placeOf(int hour, int pier) {
            return hour * PIERS + pier;
        }

        void print(State state) {
            for (int place = 0; place < users.length; place++) {
                users[place] = 0;
            }
            for (int c = 0; c < CAPTAINS; c++) {
                timetables[c].print(state.captains[c]);
                noteUses(timetables[c], 1 << c);
            }
        }

        private void noteUses(Timetable timetable, int user) {
            for (int i = 0; i < timetable.crossings; i++) {
                int hour = timetable.hourOf(i);
                noteUse(placeOf(hour, timetable.pierOf(i)), user);
                noteUse(placeOf(hour + CROSSING_TIME, timetable.pierOf(i + 1)), user);
            }
        }

        private void noteUse(int place, int user) {
            if (place >= 0 && place < users.length) {
                users[place] |= user;
            }
        }

        int usersAt(int place) {
            return place >= 0 && place < users.length ? users[place] : 0;
        }

        private boolean isClash(int place) {
            return Integer.bitCount(usersAt(place)) >= 2;
        }

        int clashes() {
            int clashes = 0;
            for (int place = 0; place < users.length; place++) {
                if (isClash(place)) {
                    clashes++;
                }
            }
            return clashes;
        }

        /** The place of a clash by its number, or NONE if there are not so many. */
        int placeOfClash(int number) {
            int clashes = 0;
            for (int place = 0; place < users.length; place++) {
                if (isClash(place)) {
                    if (clashes == number) {
                        return place;
                    }
                    clashes++;
                }
            }
            return NONE;
        }

        int crossings() {
            int sum = 0;
            for (Timetable timetable : timetables) {
                sum += timetable.crossings;
            }
            return sum;
        }
    }

    /** A captain's ferry on one day. */
    private static final class Ferry {
        final Timetable timetable = new Timetable();
        int draft = 0;
        /** Where it lies, or at sea the pier that it left. */
        int pier = 0;
        boolean atSea = false;
        int departure = 0;
        boolean arrivedNow = false;
        boolean wantsNow = false;
        int crossingsMade = 0;
        int hoursAground = 0;
        int hoursLate = 0;
        int pardons = 0;

        void beginDay(Captain captain) {
            timetable.print(captain);
            draft = captain.draft;
            pier = captain.home;
            atSea = false;
            crossingsMade = 0;
            hoursAground = 0;
            hoursLate = 0;
            pardons = 0;
        }

        void beginHour(int hour, int water) {
            arrivedNow = atSea && hour == departure + CROSSING_TIME;
            if (arrivedNow) {
                atSea = false;
                pier = (pier + 1) % PIERS;
            }
            wantsNow = !atSea && hour <= LAST_DEPARTURE
                    && timetable.has(crossingsMade) && timetable.hourOf(crossingsMade) <= hour;
            if (wantsNow && water < draft) {
                hoursAground++;
                wantsNow = false;
            }
        }

        boolean wantsFrom(int asked) {
            return wantsNow && pier == asked;
        }

        boolean arrivedAt(int asked) {
            return arrivedNow && pier == asked;
        }

        void depart(int hour) {
            atSea = true;
            wantsNow = false;
            departure = hour;
            crossingsMade++;
        }

        void stay(boolean drewLot) {
            hoursLate++;
            if (drewLot) {
                pardons++;
            }
        }

        int crossingsLeft() {
            return timetable.crossings - crossingsMade;
        }

        boolean isLesson(int hoursToLearn) {
            return hoursAground >= hoursToLearn;
        }

        int tell(int what) {
            switch (what) {
                case MADE:
                    return crossingsMade;
                case AGROUND:
                    return hoursAground;
                case LATE:
                    return hoursLate;
                case CANCELLED:
                    return crossingsLeft();
                default:
                    return 0;
            }
        }
    }

    /** One day, sailed by the timetables as a state prints them; the state itself stays as it is. */
    private static final class SailedDay {
        final Ferry[] ferries = {new Ferry(), new Ferry(), new Ferry()};
        int lot = 0;
        int lotsDrawn = 0;

        void run(State state) {
            lot = state.lot;
            lotsDrawn = 0;
            for (int c = 0; c < CAPTAINS; c++) {
                ferries[c].beginDay(state.captains[c]);
            }
            for (int hour = 0; hour < HOURS; hour++) {
                int water = levelAt(state.phase, hour);
                for (Ferry ferry : ferries) {
                    ferry.beginHour(hour, water);
                }
                for (int pier = 0; pier < PIERS; pier++) {
                    givePier(pier, hour);
                }
            }
        }

        private void givePier(int pier, int hour) {
            int wanting = 0;
            boolean taken = false;
            for (Ferry ferry : ferries) {
                wanting += ferry.wantsFrom(pier) ? 1 : 0;
                if (ferry.arrivedAt(pier)) {
                    taken = true;
                }
            }
            boolean byLot = !taken && wanting > 1;
            int winner = byLot ? drawLot(wanting) : 0;
            int rank = 0;
            for (Ferry ferry : ferries) {
                if (ferry.wantsFrom(pier)) {
                    if (!taken && rank == winner) {
                        ferry.depart(hour);
                    } else {
                        ferry.stay(byLot);
                    }
                    rank++;
                }
            }
        }

        private int drawLot(int several) {
            lot = (75 * lot + 74) % LOTS;
            lotsDrawn++;
            return several > 0 ? lot % several : 0;
        }

        int sumOf(int what) {
            int sum = 0;
            for (Ferry ferry : ferries) {
                sum += ferry.tell(what);
            }
            return sum;
        }

        int learners(int hoursToLearn) {
            int set = 0;
            for (int c = 0; c < CAPTAINS; c++) {
                if (ferries[c].isLesson(hoursToLearn)) {
                    set |= 1 << c;
                }
            }
            return set;
        }
    }

    /** A text of beliefs, read character by character. */
    private static final class BeliefText {
        // What has to come at a place of the text.
        private static final int AT_CAPTAIN = 0;
        private static final int AT_COLON = 1;
        private static final int AT_LETTER = 2;
        private static final int AT_NUMBER = 3;
        private static final int IN_NUMBER = 4;

        final char[] signs = new char[TEXT_ROOM];
        int length = 0;
        int parts = 0;

        private int place = AT_CAPTAIN;
        private int captain = 0;
        private int what = BELIEF;
        private int number = 0;

        boolean append(char sign) {
            if (length < 0 || length >= signs.length) {
                return false;
            }
            signs[length] = sign;
            length++;
            return true;
        }

        /**
         * Changes a state as the text tells and answers the fault, or NONE. With a fault the state
         * has been changed by what stands ahead of it.
         */
        int readInto(State state) {
            place = AT_CAPTAIN;
            parts = 0;
            for (int i = 0; i < length && i < signs.length; i++) {
                if (!takes(signs[i], state)) {
                    return i;
                }
            }
            return place == IN_NUMBER ? NONE : length;
        }

        private boolean takes(char sign, State state) {
            switch (place) {
                case AT_CAPTAIN:
                    return takesCaptain(sign);
                case AT_COLON:
                    place = AT_LETTER;
                    return sign == ':';
                case AT_LETTER:
                    return takesLetter(sign);
                case AT_NUMBER:
                    return takesFirstDigit(sign, state);
                default:
                    return takesBehindDigit(sign, state);
            }
        }

        private boolean takesCaptain(char sign) {
            captain = digitOf(sign);
            parts++;
            place = AT_COLON;
            return isCaptain(captain);
        }

        private boolean takesLetter(char sign) {
            what = whatOf(sign);
            place = AT_NUMBER;
            return what != NONE;
        }

        private boolean takesFirstDigit(char sign, State state) {
            number = digitOf(sign);
            place = IN_NUMBER;
            return tellsNumber(state);
        }

        private boolean takesBehindDigit(char sign, State state) {
            if (sign == ';') {
                place = AT_CAPTAIN;
                return true;
            }
            int digit = digitOf(sign);
            if (digit == NONE) {
                return takesLetter(sign);
            }
            if (number == 0) {
                return false;
            }
            number = number * 10 + digit;
            return tellsNumber(state);
        }

        /** Every digit tells a number of its own, and a later digit only another one in its place. */
        private boolean tellsNumber(State state) {
            if (!isCaptain(captain) || !isValueOfCaptain(what, number)) {
                return false;
            }
            state.captains[captain].change(what, number);
            return true;
        }

        private static int digitOf(char sign) {
            return sign >= '0' && sign <= '9' ? sign - '0' : NONE;
        }

        private static int whatOf(char letter) {
            switch (letter) {
                case 'p':
                    return BELIEF;
                case 'd':
                    return DRAFT;
                case 'f':
                    return FIRST_HOUR;
                case 'h':
                    return HOME;
                default:
                    return NONE;
            }
        }
    }
}
