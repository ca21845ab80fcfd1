/**
 * Who carries the tent: WALKERS, THINGS and STAGES told by a text, what happens on the way, and
 * what would happen. Words in capitals are those of the document's Terms.
 */
public final class TentBearers {
    public static final int BAD = -1, STATE = -2, FULL = -3, NONE = -9;
    public static final int NO = -1000000;

    private static final int MOST_WALKERS = 4;
    private static final int MOST_THINGS = 7;
    private static final int MOST_STAGES = 8;
    private static final int MOST_BYTES = 200;
    private static final int MOST_LINES = 6;
    private static final int MOST_UNDONE = 10;
    private static final int MOST_TIRED = 20;
    private static final int MOST_LENGTH = 20;
    private static final int MOST_MINUTES = 999;
    private static final int IMAGES = 2;
    private static final int LEFT_BEHIND = 9;
    private static final int ENDLESS = 1000000000;

    private final Text text = new Text();
    private final Tale tale = new Tale();
    private final Reader reader = new Reader(text);
    private final Journey journey = new Journey(tale);
    private final Camp now = journey.now;
    private final Journey[] images = new Journey[IMAGES];
    private final boolean[] isKept = new boolean[IMAGES];
    private final Today today = new Today(tale);
    private final Ahead ahead = new Ahead(tale);
    private final Book minutesBook = new Book(tale);
    private long trace = 0;

    public TentBearers() {
        for (int i = 0; i < IMAGES; i++) {
            images[i] = new Journey(tale);
        }
    }

    // ---- the way

    public int type(int c) {
        if (!isWithin(c, 0, 255)) {
            return BAD;
        }
        return text.takes(c) ? text.length : FULL;
    }

    public int clear() {
        int had = text.length;
        text.length = 0;
        return had;
    }

    public int way() {
        int items = reader.readAll();
        if (items < 0) {
            return -10 - text.start;
        }
        tale.copyFrom(reader.draft);
        text.length = 0;
        journey.begin();
        minutesBook.lines = 0;
        for (int i = 0; i < IMAGES; i++) {
            isKept[i] = false;
        }
        return items;
    }

    public int walker(int w, int what) {
        if (!isWalker(w)) {
            return BAD;
        }
        switch (what) {
            case 0: return tale.strength[w];
            case 1: return tale.mends[w];
            case 2: return now.tired[w];
            case 3: return now.load(w);
            case 4: return now.pace(w, now.load(w));
            case 5: return now.thingsWith(w);
            default: return BAD;
        }
    }

    public int thing(int t, int what) {
        if (!isThing(t)) {
            return BAD;
        }
        switch (what) {
            case 0: return tale.pounds[t];
            case 1: return tale.soaks[t];
            case 2: return tale.food[t];
            case 3: return tale.part[t];
            case 4: return now.bearer[t];
            case 5: return now.left[t];
            case 6: return now.isWet(t) ? 1 : 0;
            case 7: return now.weight(t);
            default: return BAD;
        }
    }

    public int stage(int s, int what) {
        if (!isWithin(s, 0, tale.stages - 1)) {
            return BAD;
        }
        switch (what) {
            case 0: return tale.length[s];
            case 1: return tale.rain[s];
            case 2: return tale.hut[s];
            default: return BAD;
        }
    }

    // ---- going

    public int gives(int t, int w) {
        if (!isThing(t) || !isWalker(w)) {
            return BAD;
        }
        if (!now.canBeGiven(t, w)) {
            return STATE;
        }
        journey.remember();
        int bearer = now.bearer[t];
        now.bearer[t] = w;
        now.given++;
        return bearer;
    }

    public int leaves(int t) {
        if (!isThing(t)) {
            return BAD;
        }
        if (!now.isCarried(t) || !now.isAtHut()) {
            return STATE;
        }
        journey.remember();
        int bearer = now.bearer[t];
        now.bearer[t] = LEFT_BEHIND;
        return bearer;
    }

    public int goes() {
        if (!now.hasStage()) {
            return STATE;
        }
        journey.remember();
        int before = now.minutes;
        now.pass(tale.rains(now.day));
        return now.minutes - before;
    }

    public int undo() {
        return journey.takeBack() ? journey.known : STATE;
    }

    public int now(int what) {
        switch (what) {
            case 0: return now.day;
            case 1: return now.minutes;
            case 2: return now.hunger;
            case 3: return now.isAtHut() ? 1 : 0;
            case 4: return now.spread(false);
            case 5: return now.spread(true);
            case 6: return now.parted();
            case 7: return now.given;
            default: return BAD;
        }
    }

    // ---- what comes

    public int rest(int what) {
        if (!isEither(what)) {
            return BAD;
        }
        Camp end = ahead.end(now);
        return what == 0 ? end.minutes : end.hunger;
    }

    public int spent(int what) {
        if (!isEither(what)) {
            return BAD;
        }
        if (!ahead.findSpent(now)) {
            return NONE;
        }
        return what == 0 ? ahead.spentWalker : ahead.spentDay;
    }

    public int soonest(int t) {
        if (!isWithin(t, -2, tale.things - 1)) {
            return BAD;
        }
        if (tale.walkers == 0 || !today.findSoonest(now)) {
            return NONE;
        }
        if (t == -1) {
            return today.fewest;
        }
        return t == -2 ? today.difference : today.best[t];
    }

    public int helps() {
        return today.bestGift(now);
    }

    public int leave(int m, int what) {
        if (!isWithin(m, 0, MOST_MINUTES) || !isEither(what)) {
            return BAD;
        }
        int set = today.lightestSet(now, m);
        return set == NONE || what == 0 ? set : now.leftOf(set);
    }

    public int eat(int what) {
        if (!isEither(what)) {
            return BAD;
        }
        ahead.findRow(now);
        return what == 0 ? ahead.bestRow : ahead.fewest;
    }

    // ---- what is told

    public int truly(int w, int length, int minutes, int what) {
        if (!isLine(w, length, minutes) || !isEither(what)) {
            return BAD;
        }
        int found = NONE;
        for (int load = 0; load <= 99; load++) {
            if (now.minutesFor(w, load, length) == minutes && (found == NONE || what == 1)) {
                found = load;
            }
        }
        return found;
    }

    public long odds(int x, int m, int what) {
        if (!isWithin(x, 0, 10) || !isWithin(m, 0, 9999) || !isEither(what)) {
            return BAD;
        }
        ahead.findOdds(now, x, m);
        return what == 0 ? ahead.upper : ahead.lower;
    }

    public int book(int w, int length, int minutes) {
        if (!isLine(w, length, minutes)) {
            return BAD;
        }
        return minutesBook.takes(w, length, minutes) ? minutesBook.lines : FULL;
    }

    public int burn() {
        int had = minutesBook.lines;
        minutesBook.lines = 0;
        return had;
    }

    public int sacks(int what) {
        if (!isEither(what)) {
            return BAD;
        }
        minutesBook.findGifts(now);
        return what == 0 ? minutesBook.gifts : minutesBook.leastGift;
    }

    // ---- kinds, images

    public int mark(int kind, int t) {
        if (!isThing(t)) {
            return NO;
        }
        switch (kind) {
            case 0: return asLoad(t);
            case 1: return asHeavy(t);
            case 2: return asLight(t);
            case 3: return asDamp(t);
            case 4: return asEaten(t);
            case 5: return asSilent(t);
            default: return NO;
        }
    }

    public int keep(int image) {
        if (!isWithin(image, 0, IMAGES - 1)) {
            return BAD;
        }
        images[image].copyFrom(journey);
        isKept[image] = true;
        return now.day;
    }

    public int back(int image) {
        if (!isWithin(image, 0, IMAGES - 1)) {
            return BAD;
        }
        if (!isKept[image]) {
            return STATE;
        }
        journey.copyFrom(images[image]);
        return now.day;
    }

    public int count(int what) {
        switch (what) {
            case 0: return tale.walkers;
            case 1: return tale.things;
            case 2: return tale.stages;
            case 3: return minutesBook.lines;
            case 4: return journey.known;
            case 5: return text.length;
            default: return BAD;
        }
    }

    public long trace() {
        return trace;
    }

    // Each KIND asks the one above it, so that THE TRACE counts that body too.

    private int asLoad(int t) {
        trace += 1;
        return now.weight(t);
    }

    private int asHeavy(int t) {
        trace += 10;
        return asLoad(t) + tale.soaks[t];
    }

    private int asLight(int t) {
        trace += 100;
        return asLoad(t) - tale.pounds[t];
    }

    private int asDamp(int t) {
        trace += 1000;
        return asHeavy(t) * 2;
    }

    private int asEaten(int t) {
        trace += 10000;
        return asLight(t) + now.day;
    }

    private int asSilent(int t) {
        trace += 100000;
        return asLoad(t) + now.given;
    }

    private boolean isWalker(int w) {
        return isWithin(w, 0, tale.walkers - 1);
    }

    private boolean isThing(int t) {
        return isWithin(t, 0, tale.things - 1);
    }

    private boolean isLine(int w, int length, int minutes) {
        return isWalker(w) && isWithin(length, 1, MOST_LENGTH) && isWithin(minutes, 1, MOST_MINUTES);
    }

    private static boolean isEither(int what) {
        return what == 0 || what == 1;
    }

    private static boolean isWithin(int number, int least, int most) {
        return number >= least && number <= most;
    }

    /** THE TEXT, and the TOKEN at which its reading stands. */
    private static final class Text {
        static final int END = 0, LETTERS = 1, NUMBER = 2, STOP = 3, WRONG = 4;

        final int[] bytes = new int[MOST_BYTES];
        int length = 0;
        int token = END;
        int start = 0;
        int end = 0;
        /** Of a NUMBER; of LETTERS the letter, if it is one alone, else 0. */
        int value = 0;

        boolean takes(int c) {
            if (length >= MOST_BYTES) {
                return false;
            }
            bytes[length] = c;
            length++;
            return true;
        }

        void toFirstToken() {
            end = 0;
            toNextToken();
        }

        void toNextToken() {
            start = end;
            while (start < length && bytes[start] == ' ') {
                start++;
            }
            end = start;
            value = 0;
            if (start >= length) {
                token = END;
            } else if (isLetter(bytes[start])) {
                readLetters();
            } else if (isDigit(bytes[start])) {
                readNumber();
            } else {
                token = bytes[start] == ';' ? STOP : WRONG;
                end = start + 1;
            }
        }

        private void readLetters() {
            while (end < length && isLetter(bytes[end])) {
                end++;
            }
            token = LETTERS;
            value = end - start == 1 ? bytes[start] : 0;
        }

        private void readNumber() {
            while (end < length && isDigit(bytes[end])) {
                // No more than three figures are added up: beyond 99 all are alike wrong.
                value = value > 99 ? value : 10 * value + bytes[end] - '0';
                end++;
            }
            boolean zeroAhead = bytes[start] == '0' && end - start > 1;
            token = value > 99 || zeroAhead ? WRONG : NUMBER;
        }

        private static boolean isLetter(int c) {
            return c >= 'a' && c <= 'z';
        }

        private static boolean isDigit(int c) {
            return c >= '0' && c <= '9';
        }
    }

    /** Reads THE TEXT into a draft, so that a FAULT changes nothing; it stops at the wrong TOKEN. */
    private static final class Reader {
        final Text text;
        final Tale draft = new Tale();
        private boolean isFaulty = false;

        Reader(Text text) {
            this.text = text;
        }

        /** How many ITEMS; BAD: text.start is the FAULT. */
        int readAll() {
            draft.walkers = 0;
            draft.things = 0;
            draft.stages = 0;
            isFaulty = false;
            text.toFirstToken();
            int items = 0;
            for (int i = 0; i < MOST_BYTES && text.token != Text.END && !isFaulty; i++) {
                readItem();
                items++;
            }
            return isFaulty ? BAD : items;
        }

        private void readItem() {
            int letter = text.token == Text.LETTERS ? text.value : 0;
            if (letter == 'w' && draft.walkers < MOST_WALKERS) {
                readWalker(draft.walkers);
            } else if (letter == 't' && draft.things < MOST_THINGS) {
                readThing(draft.things);
            } else if (letter == 's' && draft.stages < MOST_STAGES) {
                readStage(draft.stages);
            } else {
                isFaulty = true;
            }
        }

        private void readWalker(int w) {
            text.toNextToken();
            draft.strength[w] = number(1, 40);
            draft.mends[w] = number(0, 5);
            draft.walkers++;
            endItem();
        }

        private void readThing(int t) {
            text.toNextToken();
            draft.pounds[t] = number(1, 20);
            draft.soaks[t] = number(0, 9);
            draft.food[t] = number(0, 1);
            draft.part[t] = number(0, 3);
            draft.bearer[t] = number(0, draft.walkers - 1);
            draft.things++;
            endItem();
        }

        private void readStage(int s) {
            text.toNextToken();
            draft.length[s] = number(1, MOST_LENGTH);
            draft.rain[s] = number(0, 1);
            draft.hut[s] = number(0, 1);
            draft.stages++;
            endItem();
        }

        private int number(int least, int most) {
            if (isFaulty || text.token != Text.NUMBER || !isWithin(text.value, least, most)) {
                isFaulty = true;
                return 0;
            }
            int told = text.value;
            text.toNextToken();
            return told;
        }

        private void endItem() {
            if (isFaulty || text.token != Text.STOP) {
                isFaulty = true;
            } else {
                text.toNextToken();
            }
        }
    }

    /** What a text has told: only another text changes it. */
    private static final class Tale {
        int walkers = 0;
        final int[] strength = new int[MOST_WALKERS];
        final int[] mends = new int[MOST_WALKERS];
        int things = 0;
        final int[] pounds = new int[MOST_THINGS];
        final int[] soaks = new int[MOST_THINGS];
        final int[] food = new int[MOST_THINGS];
        final int[] part = new int[MOST_THINGS];
        final int[] bearer = new int[MOST_THINGS];
        int stages = 0;
        final int[] length = new int[MOST_STAGES];
        final int[] rain = new int[MOST_STAGES];
        final int[] hut = new int[MOST_STAGES];

        void copyFrom(Tale other) {
            walkers = other.walkers;
            System.arraycopy(other.strength, 0, strength, 0, MOST_WALKERS);
            System.arraycopy(other.mends, 0, mends, 0, MOST_WALKERS);
            things = other.things;
            System.arraycopy(other.pounds, 0, pounds, 0, MOST_THINGS);
            System.arraycopy(other.soaks, 0, soaks, 0, MOST_THINGS);
            System.arraycopy(other.food, 0, food, 0, MOST_THINGS);
            System.arraycopy(other.part, 0, part, 0, MOST_THINGS);
            System.arraycopy(other.bearer, 0, bearer, 0, MOST_THINGS);
            stages = other.stages;
            System.arraycopy(other.length, 0, length, 0, MOST_STAGES);
            System.arraycopy(other.rain, 0, rain, 0, MOST_STAGES);
            System.arraycopy(other.hut, 0, hut, 0, MOST_STAGES);
        }

        boolean rains(int s) {
            return s >= 0 && s < stages && rain[s] == 1;
        }
    }

    /** How all stands on a DAY: NOW, an earlier one, or one that would be. */
    private static final class Camp {
        private static final int[] BY_NUMBERS = {0, 1, 2, 3, 4, 5, 6};

        final Tale tale;
        int day = 0;
        int minutes = 0;
        int hunger = 0;
        int given = 0;
        /** Bits of the THINGS that are WET. */
        int wet = 0;
        final int[] bearer = new int[MOST_THINGS];
        final int[] left = new int[MOST_THINGS];
        final int[] tired = new int[MOST_WALKERS];

        Camp(Tale tale) {
            this.tale = tale;
        }

        void begin() {
            day = 0;
            minutes = 0;
            hunger = 0;
            given = 0;
            wet = 0;
            System.arraycopy(tale.bearer, 0, bearer, 0, MOST_THINGS);
            System.arraycopy(tale.pounds, 0, left, 0, MOST_THINGS);
            for (int w = 0; w < MOST_WALKERS; w++) {
                tired[w] = 0;
            }
        }

        void copyFrom(Camp other) {
            day = other.day;
            minutes = other.minutes;
            hunger = other.hunger;
            given = other.given;
            wet = other.wet;
            System.arraycopy(other.bearer, 0, bearer, 0, MOST_THINGS);
            System.arraycopy(other.left, 0, left, 0, MOST_THINGS);
            System.arraycopy(other.tired, 0, tired, 0, MOST_WALKERS);
        }

        boolean isWet(int t) {
            return (wet >> t & 1) == 1;
        }

        boolean isCarried(int t) {
            return bearer[t] != LEFT_BEHIND;
        }

        boolean canBeGiven(int t, int w) {
            return isCarried(t) && bearer[t] != w;
        }

        boolean isAtHut() {
            return day <= 0 || day <= tale.stages && tale.hut[day - 1] == 1;
        }

        boolean hasStage() {
            return day < tale.stages;
        }

        int weight(int t) {
            return left[t] > 0 && isWet(t) ? left[t] + tale.soaks[t] : left[t];
        }

        int load(int w) {
            int load = 0;
            for (int t = 0; t < tale.things; t++) {
                if (bearer[t] == w) {
                    load += weight(t);
                }
            }
            return load;
        }

        int thingsWith(int w) {
            int set = 0;
            for (int t = 0; t < tale.things; t++) {
                if (bearer[t] == w) {
                    set |= 1 << t;
                }
            }
            return set;
        }

        int leftOf(int set) {
            int sum = 0;
            for (int t = 0; t < tale.things; t++) {
                if ((set >> t & 1) == 1) {
                    sum += left[t];
                }
            }
            return sum;
        }

        int force(int w) {
            return tale.strength[w] - tired[w];
        }

        int pace(int w, int load) {
            return Math.max(1, Math.min(20, force(w) - load + 10));
        }

        int minutesFor(int w, int load, int length) {
            int pace = pace(w, load);
            return pace < 1 ? 0 : (60 * length + pace - 1) / pace;
        }

        int slowest(int length) {
            int slowest = 0;
            for (int w = 0; w < tale.walkers; w++) {
                slowest = Math.max(slowest, minutesFor(w, load(w), length));
            }
            return slowest;
        }

        /** FAIR: by pounds, or by breath. */
        int spread(boolean byBreath) {
            int greatest = -ENDLESS;
            int least = ENDLESS;
            for (int w = 0; w < tale.walkers; w++) {
                int burden = byBreath ? load(w) - force(w) : load(w);
                greatest = Math.max(greatest, burden);
                least = Math.min(least, burden);
            }
            return tale.walkers == 0 ? 0 : greatest - least;
        }

        int parted() {
            int parts = 0;
            for (int t = 0; t < tale.things; t++) {
                for (int u = 0; u < t; u++) {
                    if (tale.part[t] > 0 && tale.part[t] == tale.part[u] && bearer[t] != bearer[u]) {
                        parts |= 1 << tale.part[t];
                    }
                }
            }
            return parts;
        }

        /** The whole STAGE of the DAY. */
        void pass(boolean rains) {
            march(rains);
            feed(BY_NUMBERS, tale.things);
            settle(rains);
        }

        void march(boolean rains) {
            if (!hasStage()) {
                return;
            }
            if (rains) {
                soak();
            }
            int slowest = 0;
            for (int w = 0; w < tale.walkers; w++) {
                int load = load(w);
                slowest = Math.max(slowest, minutesFor(w, load, tale.length[day]));
                tire(w, load);
            }
            minutes += slowest;
        }

        void soak() {
            for (int t = 0; t < tale.things; t++) {
                if (isCarried(t)) {
                    wet |= 1 << t;
                }
            }
        }

        private void tire(int w, int load) {
            if (load > force(w)) {
                tired[w] = Math.min(MOST_TIRED, tired[w] + 2);
            } else {
                tired[w] = Math.max(0, tired[w] - tale.mends[w]);
            }
        }

        /** How much of the ROW, from its head, tells what was eaten. */
        int feed(int[] row, int many) {
            int need = 2 * tale.walkers;
            int reached = 0;
            for (int i = 0; i < many && need > 0; i++) {
                int t = row[i];
                if (tale.food[t] == 1 && isCarried(t) && left[t] > 0) {
                    int bite = Math.min(need, left[t]);
                    left[t] -= bite;
                    need -= bite;
                    reached = i + 1;
                }
            }
            hunger += need;
            return reached;
        }

        void settle(boolean rained) {
            if (!rained) {
                wet = 0;
            }
            day++;
        }
    }

    /** NOW, and what may be UNDONE: the latest that are known, in a ring. */
    private static final class Journey {
        final Camp now;
        final Camp[] past = new Camp[MOST_UNDONE];
        int known = 0;
        /** Where the next one comes. */
        int next = 0;

        Journey(Tale tale) {
            now = new Camp(tale);
            for (int i = 0; i < MOST_UNDONE; i++) {
                past[i] = new Camp(tale);
            }
        }

        void begin() {
            now.begin();
            known = 0;
            next = 0;
        }

        void copyFrom(Journey other) {
            now.copyFrom(other.now);
            for (int i = 0; i < MOST_UNDONE; i++) {
                past[i].copyFrom(other.past[i]);
            }
            known = other.known;
            next = other.next;
        }

        void remember() {
            past[next].copyFrom(now);
            next = (next + 1) % MOST_UNDONE;
            known = Math.min(MOST_UNDONE, known + 1);
        }

        boolean takeBack() {
            if (known == 0) {
                return false;
            }
            next = (next + MOST_UNDONE - 1) % MOST_UNDONE;
            known--;
            now.copyFrom(past[next]);
            return true;
        }
    }

    /** What could be done for the STAGE of the DAY. */
    private static final class Today {
        final Tale tale;
        /** As it is on that STAGE: after its RAIN. */
        final Camp camp;
        int length = 0;

        /** SOONEST: its MINUTES, its difference, its WALKERS. */
        int fewest = 0;
        int difference = 0;
        final int[] best = new int[MOST_THINGS];
        private final int[] loads = new int[MOST_WALKERS];
        private int allPounds = 0;

        Today(Tale tale) {
            this.tale = tale;
            camp = new Camp(tale);
        }

        private boolean wake(Camp now) {
            if (!now.hasStage()) {
                return false;
            }
            camp.copyFrom(now);
            if (tale.rains(camp.day)) {
                camp.soak();
            }
            length = tale.length[camp.day];
            return true;
        }

        boolean findSoonest(Camp now) {
            if (!wake(now)) {
                return false;
            }
            fewest = ENDLESS;
            difference = ENDLESS;
            allPounds = 0;
            for (int t = 0; t < tale.things; t++) {
                allPounds += camp.isCarried(t) ? camp.weight(t) : 0;
            }
            int minutes = 0;
            for (int w = 0; w < tale.walkers; w++) {
                loads[w] = 0;
                minutes = Math.max(minutes, camp.minutesFor(w, 0, length));
            }
            place(0, minutes);
            return true;
        }

        /** Tries all WALKERS for THING t and those behind it, the first ways first. */
        private void place(int t, int minutes) {
            if (t >= tale.things || t >= MOST_THINGS) {
                judge(minutes);
                return;
            }
            if (!camp.isCarried(t)) {
                place(t + 1, minutes);
                return;
            }
            int weight = camp.weight(t);
            for (int w = 0; w < tale.walkers; w++) {
                camp.bearer[t] = w;
                loads[w] += weight;
                int slowest = Math.max(minutes, camp.minutesFor(w, loads[w], length));
                if (canBeBetter(slowest, loads[w])) {
                    place(t + 1, slowest);
                }
                loads[w] -= weight;
            }
        }

        /** No THING makes it quicker, and the least LOAD will be no more than an even share. */
        private boolean canBeBetter(int minutes, int load) {
            return minutes < fewest
                || minutes == fewest && tale.walkers > 0 && load - allPounds / tale.walkers < difference;
        }

        private void judge(int minutes) {
            int greatest = 0;
            int least = ENDLESS;
            for (int w = 0; w < tale.walkers; w++) {
                greatest = Math.max(greatest, loads[w]);
                least = Math.min(least, loads[w]);
            }
            if (minutes < fewest || minutes == fewest && greatest - least < difference) {
                fewest = minutes;
                difference = greatest - least;
                System.arraycopy(camp.bearer, 0, best, 0, MOST_THINGS);
            }
        }

        /** HELPS. */
        int bestGift(Camp now) {
            if (!wake(now)) {
                return NONE;
            }
            int least = camp.slowest(length);
            int gift = NONE;
            for (int t = 0; t < tale.things; t++) {
                for (int w = 0; w < tale.walkers; w++) {
                    if (now.canBeGiven(t, w)) {
                        camp.bearer[t] = w;
                        int minutes = camp.slowest(length);
                        if (minutes < least) {
                            least = minutes;
                            gift = 10 * t + w;
                        }
                    }
                }
                camp.bearer[t] = now.bearer[t];
            }
            return gift;
        }

        /** The set of LEAVE. */
        int lightestSet(Camp now, int m) {
            if (!wake(now)) {
                return NONE;
            }
            int least = ENDLESS;
            int found = NONE;
            for (int set = 0; set < 1 << tale.things; set++) {
                int left = now.leftOf(set);
                if (left < least && isQuickWithout(now, set, m)) {
                    least = left;
                    found = set;
                }
            }
            return found;
        }

        private boolean isQuickWithout(Camp now, int set, int m) {
            for (int t = 0; t < tale.things; t++) {
                boolean isLeft = (set >> t & 1) == 1;
                if (isLeft && (tale.food[t] == 1 || !now.isCarried(t))) {
                    return false;
                }
                camp.bearer[t] = isLeft ? LEFT_BEHIND : now.bearer[t];
            }
            return camp.slowest(length) <= m;
        }
    }

    /** What the STAGES that are to come bring. */
    private static final class Ahead {
        final Tale tale;
        /** How it is ahead of each STAGE that is to come, and at the end. */
        final Camp[] steps = new Camp[MOST_STAGES + 1];

        int spentWalker = 0;
        int spentDay = 0;

        long upper = 0;
        long lower = 1;

        /** EAT: its ROW in figures, its MINUTES. */
        int bestRow = 0;
        int fewest = 0;
        private final int[] row = new int[MOST_THINGS];
        private int foods = 0;
        /** How much of the ROW tells how it is ahead of each STAGE. */
        private final int[] reached = new int[MOST_STAGES + 1];

        Ahead(Tale tale) {
            this.tale = tale;
            for (int i = 0; i <= MOST_STAGES; i++) {
                steps[i] = new Camp(tale);
            }
        }

        private Camp setOut(Camp now) {
            Camp first = steps[0];
            first.copyFrom(now);
            first.minutes = 0;
            first.hunger = 0;
            return first;
        }

        /** REST. */
        Camp end(Camp now) {
            Camp camp = setOut(now);
            for (int s = camp.day; s < tale.stages; s++) {
                camp.pass(tale.rains(s));
            }
            return camp;
        }

        boolean findSpent(Camp now) {
            Camp camp = setOut(now);
            for (int s = camp.day; s < tale.stages; s++) {
                if (tale.rains(s)) {
                    camp.soak();
                }
                for (int w = 0; w < tale.walkers; w++) {
                    if (camp.pace(w, camp.load(w)) == 1) {
                        spentWalker = w;
                        spentDay = s;
                        return true;
                    }
                }
                camp.pass(tale.rains(s));
            }
            return false;
        }

        void findOdds(Camp now, int x, int m) {
            lower = 1;
            for (int s = now.day; s < tale.stages; s++) {
                lower *= 10;
            }
            setOut(now);
            upper = luckyWays(0, x, m);
            shorten(2);
            shorten(5);
        }

        /** Of ten ways of each STAGE's weather from a step on, how many take m MINUTES at most. */
        private long luckyWays(int step, int x, int m) {
            Camp camp = steps[step];
            if (camp.minutes > m) {
                return 0;
            }
            if (!camp.hasStage() || step >= MOST_STAGES) {
                return 1;
            }
            long ways = 0;
            if (x > 0) {
                stepOn(step, true);
                ways += x * luckyWays(step + 1, x, m);
            }
            if (x < 10) {
                stepOn(step, false);
                ways += (10 - x) * luckyWays(step + 1, x, m);
            }
            return ways;
        }

        private void stepOn(int step, boolean rains) {
            steps[step + 1].copyFrom(steps[step]);
            steps[step + 1].pass(rains);
        }

        /** The lower number is a power of ten: nothing but 2 and 5 can be common. */
        private void shorten(int prime) {
            for (int i = 0; i < MOST_STAGES; i++) {
                if (prime > 1 && upper % prime == 0 && lower % prime == 0) {
                    upper /= prime;
                    lower /= prime;
                }
            }
        }

        void findRow(Camp now) {
            lowestRow();
            setOut(now);
            reached[0] = 0;
            bestRow = 0;
            fewest = ENDLESS;
            int from = 0;
            // There are 5040 ROWS of seven at most.
            for (int i = 0; i < 5040 && from >= 0; i++) {
                int told = followRow(from);
                from = stepBefore(nextRow(told));
            }
        }

        private void lowestRow() {
            foods = 0;
            for (int t = 0; t < tale.things; t++) {
                if (tale.food[t] == 1) {
                    row[foods] = t;
                    foods++;
                }
            }
        }

        /**
         * Goes by the ROW from a step on, and answers how much of the ROW told the outcome: all that
         * begin so fare alike, and this one is the least of them. HUNGER is not looked at, for every
         * ROW has the same: each evening is eaten what is needed, or all that is there.
         */
        private int followRow(int from) {
            int stages = Math.min(MOST_STAGES, tale.stages - steps[0].day);
            for (int step = from; step < stages; step++) {
                Camp camp = steps[step + 1];
                camp.copyFrom(steps[step]);
                boolean rains = tale.rains(camp.day);
                camp.march(rains);
                // What is eaten on the last evening costs no MINUTES any more.
                if (camp.minutes >= fewest || step == stages - 1) {
                    judge(camp.minutes);
                    return reached[step];
                }
                reached[step + 1] = Math.max(reached[step], camp.feed(row, foods));
                int told = toldAsTurned(step);
                if (told > 0) {
                    return told;
                }
                camp.settle(rains);
            }
            judge(0);
            return 0;
        }

        /**
         * Two that are begun and emptied on one evening may change places, and the lesser first makes
         * the lesser ROW. How much of the ROW tells that it is not so; 0: nothing does.
         */
        private int toldAsTurned(int step) {
            int begun = reached[step + 1];
            for (int i = reached[step] + 1; i < begun; i++) {
                boolean isEmptied = i < begun - 1 || steps[step + 1].left[row[i]] == 0;
                if (isEmptied && row[i] < row[i - 1]) {
                    return i + 1;
                }
            }
            return 0;
        }

        private void judge(int minutes) {
            if (minutes < fewest) {
                fewest = minutes;
                bestRow = 0;
                for (int i = 0; i < foods; i++) {
                    bestRow = 10 * bestRow + row[i] + 1;
                }
            }
        }

        /** To the least greater ROW with another beginning: the first place that is changed; -1: none. */
        private int nextRow(int told) {
            for (int i = Math.min(told, foods) - 1; i >= 0; i--) {
                int next = placeOfNextAbove(i);
                if (next >= 0) {
                    swap(i, next);
                    sortFrom(i + 1);
                    return i;
                }
            }
            return -1;
        }

        private int placeOfNextAbove(int place) {
            int found = -1;
            for (int i = place + 1; i < foods; i++) {
                if (row[i] > row[place] && (found < 0 || row[i] < row[found])) {
                    found = i;
                }
            }
            return found;
        }

        private void sortFrom(int place) {
            for (int i = place; i < foods; i++) {
                for (int j = i + 1; j < foods; j++) {
                    if (row[j] < row[i]) {
                        swap(i, j);
                    }
                }
            }
        }

        private void swap(int i, int j) {
            int kept = row[i];
            row[i] = row[j];
            row[j] = kept;
        }

        /** The last step that a change at that place of the ROW leaves as it is; -1: no such place. */
        private int stepBefore(int place) {
            int step = -1;
            for (int i = 0; i <= MOST_STAGES && place >= 0; i++) {
                if (reached[i] <= place && i == step + 1) {
                    step = i;
                }
            }
            return step;
        }
    }

    /** THE BOOK, and the SACKS that would make it so. */
    private static final class Book {
        final Tale tale;
        final Camp camp;
        int lines = 0;
        final int[] walkers = new int[MOST_LINES];
        final int[] lengths = new int[MOST_LINES];
        final int[] minutes = new int[MOST_LINES];

        int gifts = 0;
        int leastGift = NONE;

        Book(Tale tale) {
            this.tale = tale;
            camp = new Camp(tale);
        }

        boolean takes(int w, int length, int took) {
            if (lines >= MOST_LINES) {
                return false;
            }
            walkers[lines] = w;
            lengths[lines] = length;
            minutes[lines] = took;
            lines++;
            return true;
        }

        void findGifts(Camp now) {
            gifts = 0;
            leastGift = NONE;
            camp.copyFrom(now);
            for (int t = 0; t < tale.things; t++) {
                for (int w = 0; w < tale.walkers; w++) {
                    camp.bearer[t] = w;
                    if (now.canBeGiven(t, w) && isSo()) {
                        leastGift = gifts == 0 ? 10 * t + w : leastGift;
                        gifts++;
                    }
                }
                camp.bearer[t] = now.bearer[t];
            }
        }

        private boolean isSo() {
            for (int i = 0; i < lines; i++) {
                int w = walkers[i];
                if (camp.minutesFor(w, camp.load(w), lengths[i]) != minutes[i]) {
                    return false;
                }
            }
            return true;
        }
    }
}
