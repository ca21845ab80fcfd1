import java.math.BigInteger;
import java.util.ArrayList;
import java.util.Arrays;
import java.util.List;
import java.util.Random;
import java.util.regex.Matcher;
import java.util.regex.Pattern;

/**
 * Long runs of chance calls against a second, slow TentBearers, which goes through every way, every
 * ROW, every weather and every set by the document's words.
 */
public final class OracleTest {
    private static int wrong = 0;
    private static int calls = 0;

    public static void main(String[] args) {
        for (int run = 0; run < 4000 && wrong < 20; run++) {
            new Run(run).go();
        }
        for (int run = 0; run < 120 && wrong < 20; run++) {
            new Run(10000 + run).eatSeven();
        }
        System.out.println(calls + " calls compared, " + wrong + " answers are not as due");
        if (wrong != 0) {
            System.exit(1);
        }
    }

    private static final class Run {
        final Random chance;
        final int number;
        final TentBearers got = new TentBearers();
        final Oracle due = new Oracle();
        final StringBuilder told = new StringBuilder();

        Run(int number) {
            this.number = number;
            chance = new Random(7919L * number + 13);
        }

        int upTo(int most) {
            return chance.nextInt(most + 1);
        }

        /** Mostly within, sometimes just beyond, seldom far away. */
        int around(int least, int most) {
            int roll = upTo(60);
            if (roll == 0) {
                return least - 1;
            }
            if (roll == 1) {
                return most + 1;
            }
            if (roll == 2) {
                return new int[] {Integer.MIN_VALUE, Integer.MAX_VALUE, -9, -1000000, 1 << 30, 200}[upTo(5)];
            }
            return most < least ? least : least + upTo(most - least);
        }

        void go() {
            tell(text(number % 7 == 0));
            int many = 40 + upTo(120);
            for (int i = 0; i < many && wrong < 20; i++) {
                if (upTo(80) == 0) {
                    tell(text(upTo(1) == 0));
                }
                call();
                if (upTo(12) == 0) {
                    lookAtAll();
                }
            }
        }

        /** Chance calls seldom come to the longest ROWS with a long way ahead. */
        void eatSeven() {
            tell(textOfSevenFoods());
            for (int i = upTo(2); i > 0; i--) {
                int t = upTo(6);
                check("leaves(" + t + ")", got.leaves(t), due.leaves(t));
            }
            for (int i = upTo(2); i > 0; i--) {
                check("goes()", got.goes(), due.goes());
            }
            for (int what = 0; what <= 1; what++) {
                check("eat(" + what + ")", got.eat(what), due.eat(what));
            }
        }

        String textOfSevenFoods() {
            StringBuilder s = new StringBuilder();
            int walkers = 1 + upTo(upTo(2));
            int strongest = 5 + upTo(20);
            int heaviest = 1 + walkers * (1 + upTo(3));
            for (int i = 0; i < walkers; i++) {
                s.append('w').append(1 + upTo(strongest)).append(' ').append(upTo(5)).append(';');
            }
            for (int i = 0; i < 7; i++) {
                s.append('t').append(1 + upTo(heaviest)).append(' ').append(upTo(9)).append(" 1 0 ").append(upTo(walkers - 1)).append(';');
            }
            int stages = 4 + upTo(4);
            for (int i = 0; i < stages; i++) {
                s.append('s').append(1 + upTo(19)).append(' ').append(upTo(1)).append(" 1;");
            }
            return s.toString();
        }

        void check(String call, long answer, long want) {
            calls++;
            if (!isLook(call)) {
                told.append(call).append(' ').append(answer).append("; ");
            }
            if (answer != want) {
                wrong++;
                System.out.println("run " + number + ": " + call + " answered " + answer + ", due is " + want);
                if (wrong == 1) {
                    System.out.println(told);
                }
            }
        }

        boolean isLook(String call) {
            return call.matches("(type|walker|thing|stage|now|count|trace)\\(.*");
        }

        void tell(String text) {
            for (int i = 0; i < text.length(); i++) {
                int c = text.charAt(i);
                check("type(" + c + ")", got.type(c), due.type(c));
            }
            check("way() of '" + text + "'", got.way(), due.way());
            if (upTo(3) == 0) {
                check("clear()", got.clear(), due.clear());
            }
        }

        String text(boolean spoilt) {
            StringBuilder s = new StringBuilder();
            int walkers = chance.nextInt(20) == 0 ? 0 : 1 + upTo(3);
            int things = walkers == 0 ? 0 : upTo(7);
            int stages = chance.nextInt(15) == 0 ? 0 : 1 + upTo(upTo(3) == 0 ? 7 : 4);
            int strongest = upTo(2) == 0 ? 40 : 20;
            boolean manyFoods = upTo(2) == 0 && things < 6;
            if (number % 40 == 0 && walkers > 0) {
                things = 6;
                stages = 3 + upTo(5);
                manyFoods = true;
            }
            int light = number % 80 == 0 ? 3 : 8;
            for (int i = 0; i < walkers; i++) {
                s.append("w").append(1 + upTo(strongest - 1)).append(' ').append(upTo(5)).append(';');
            }
            for (int i = 0; i < things; i++) {
                int food = manyFoods || upTo(2) == 0 ? 1 : 0;
                s.append("t").append(1 + upTo(upTo(1) == 0 && things < 6 ? 19 : light - 1)).append(' ').append(upTo(9)).append(' ').append(food);
                s.append(' ').append(upTo(3)).append(' ').append(upTo(walkers - 1)).append(';');
            }
            for (int i = 0; i < stages; i++) {
                s.append("s").append(1 + upTo(19)).append(' ').append(upTo(1)).append(' ').append(upTo(1)).append(';');
            }
            for (int i = 0; spoilt && i < 1 + upTo(2) && s.length() > 0; i++) {
                spoil(s);
            }
            return s.toString();
        }

        void spoil(StringBuilder s) {
            int at = chance.nextInt(s.length());
            String signs = "wts;  0123456789aW\t" + (char) 0 + (char) 233 + (char) 255;
            int kind = upTo(4);
            if (kind == 0) {
                s.deleteCharAt(at);
            } else if (kind == 1) {
                s.insert(at, signs.charAt(chance.nextInt(signs.length())));
            } else if (kind == 2) {
                s.setCharAt(at, signs.charAt(chance.nextInt(signs.length())));
            } else if (kind == 3) {
                s.setLength(at);
            } else {
                s.append(new String[] {"w1 1;", "t1 1 1 1 0;", "s1 0 0;", " ", "w100 0;", "w01 0;", "s1 00 0;"}[upTo(6)]);
            }
        }

        void call() {
            int t = around(0, due.things.size() - 1);
            int w = around(0, due.walkers.size() - 1);
            int what = around(0, 1);
            switch (upTo(22)) {
                case 0: case 1: case 2:
                    check("gives(" + t + ", " + w + ")", got.gives(t, w), due.gives(t, w));
                    break;
                case 3:
                    check("leaves(" + t + ")", got.leaves(t), due.leaves(t));
                    break;
                case 4: case 5:
                    check("goes()", got.goes(), due.goes());
                    break;
                case 6: case 7:
                    check("undo()", got.undo(), due.undo());
                    break;
                case 8:
                    check("rest(" + what + ")", got.rest(what), due.rest(what));
                    break;
                case 9:
                    check("spent(" + what + ")", got.spent(what), due.spent(what));
                    break;
                case 10:
                    int u = around(-2, due.things.size() - 1);
                    check("soonest(" + u + ")", got.soonest(u), due.soonest(u));
                    break;
                case 11:
                    check("helps()", got.helps(), due.helps());
                    break;
                case 12: {
                    int m = upTo(3) == 0 ? around(0, 999) : Math.min(999, due.stageMinutes()) - upTo(30);
                    check("leave(" + m + ", " + what + ")", got.leave(m, what), due.leave(m, what));
                    break;
                }
                case 13:
                    check("eat(" + what + ")", got.eat(what), due.eat(what));
                    break;
                case 14: {
                    int length = around(1, 20);
                    int minutes = upTo(1) == 0 ? around(1, 999) : 60 * Math.min(20, Math.max(1, length)) / (1 + upTo(19));
                    check("truly(" + w + ", " + length + ", " + minutes + ", " + what + ")",
                        got.truly(w, length, minutes, what), due.truly(w, length, minutes, what));
                    break;
                }
                case 15: {
                    int x = around(0, 10);
                    int m = upTo(2) == 0 ? around(0, 9999) : Math.max(0, due.rest(0) - 40 + upTo(80));
                    check("odds(" + x + ", " + m + ", " + what + ")", got.odds(x, m, what), due.odds(x, m, what));
                    break;
                }
                case 16: case 17: {
                    int length = around(1, 20);
                    int minutes = around(1, 999);
                    if (upTo(3) > 0 && due.isWalker(w) && length >= 1 && length <= 20) {
                        minutes = due.now.minutes(w, due.now.load(w) + upTo(3) - 1, length);
                    }
                    check("book(" + w + ", " + length + ", " + minutes + ")",
                        got.book(w, length, minutes), due.book(w, length, minutes));
                    break;
                }
                case 18:
                    if (upTo(2) == 0) {
                        check("burn()", got.burn(), due.burn());
                    }
                    break;
                case 19:
                    check("sacks(" + what + ")", got.sacks(what), due.sacks(what));
                    break;
                case 20: {
                    int kind = around(0, 5);
                    check("mark(" + kind + ", " + t + ")", got.mark(kind, t), due.mark(kind, t));
                    break;
                }
                case 21:
                    check("keep(" + what + ")", got.keep(what), due.keep(what));
                    break;
                default:
                    check("back(" + what + ")", got.back(what), due.back(what));
                    break;
            }
        }

        void lookAtAll() {
            for (int w = -1; w <= due.walkers.size(); w++) {
                for (int what = -1; what <= 6; what++) {
                    check("walker(" + w + ", " + what + ")", got.walker(w, what), due.walker(w, what));
                }
            }
            for (int t = -1; t <= due.things.size(); t++) {
                for (int what = -1; what <= 8; what++) {
                    check("thing(" + t + ", " + what + ")", got.thing(t, what), due.thing(t, what));
                }
            }
            for (int s = -1; s <= due.stages.size(); s++) {
                for (int what = -1; what <= 3; what++) {
                    check("stage(" + s + ", " + what + ")", got.stage(s, what), due.stage(s, what));
                }
            }
            for (int what = -1; what <= 8; what++) {
                check("now(" + what + ")", got.now(what), due.now(what));
                check("count(" + what + ")", got.count(what), due.count(what));
            }
            check("trace()", got.trace(), due.trace);
        }
    }

    /** All that may change on the way. */
    private static final class Now {
        final Oracle told;
        int day, minutes, hunger, given;
        int[] who, left, tired;
        boolean[] wet;

        Now(Oracle told) {
            this.told = told;
            who = new int[told.things.size()];
            left = new int[who.length];
            wet = new boolean[who.length];
            tired = new int[told.walkers.size()];
            for (int t = 0; t < who.length; t++) {
                who[t] = told.things.get(t)[4];
                left[t] = told.things.get(t)[0];
            }
        }

        Now copy() {
            Now n = new Now(told);
            n.day = day;
            n.minutes = minutes;
            n.hunger = hunger;
            n.given = given;
            n.who = who.clone();
            n.left = left.clone();
            n.tired = tired.clone();
            n.wet = wet.clone();
            return n;
        }

        int weighs(int t) {
            return left[t] + (wet[t] && left[t] > 0 ? told.things.get(t)[1] : 0);
        }

        int load(int w) {
            int sum = 0;
            for (int t = 0; t < who.length; t++) {
                sum += who[t] == w ? weighs(t) : 0;
            }
            return sum;
        }

        int force(int w) {
            return told.walkers.get(w)[0] - tired[w];
        }

        int pace(int w, int load) {
            int pace = force(w) - load + 10;
            return pace < 1 ? 1 : pace > 20 ? 20 : pace;
        }

        int minutes(int w, int load, int length) {
            int pace = pace(w, load);
            int minutes = 0;
            while (minutes * pace < 60 * length) {
                minutes++;
            }
            return minutes;
        }

        void rain() {
            for (int t = 0; t < who.length; t++) {
                if (who[t] != 9) {
                    wet[t] = true;
                }
            }
        }

        int slowest(int length) {
            int most = 0;
            for (int w = 0; w < tired.length; w++) {
                most = Math.max(most, minutes(w, load(w), length));
            }
            return most;
        }

        int go(boolean rains, List<Integer> row) {
            if (rains) {
                rain();
            }
            int took = slowest(told.stages.get(day)[0]);
            for (int w = 0; w < tired.length; w++) {
                if (load(w) > force(w)) {
                    tired[w] = Math.min(20, tired[w] + 2);
                } else {
                    tired[w] = Math.max(0, tired[w] - told.walkers.get(w)[1]);
                }
            }
            for (int mouthful = 0; mouthful < 2 * tired.length; mouthful++) {
                int from = -1;
                for (int t : row) {
                    if (from < 0 && told.things.get(t)[2] == 1 && who[t] != 9 && left[t] > 0) {
                        from = t;
                    }
                }
                if (from >= 0) {
                    left[from]--;
                } else {
                    hunger++;
                }
            }
            if (!rains) {
                Arrays.fill(wet, false);
            }
            day++;
            minutes += took;
            return took;
        }
    }

    private static final class Oracle {
        static final Pattern TOKEN = Pattern.compile("[a-z]+|[0-9]+|[^ ]", Pattern.DOTALL);

        String text = "";
        List<int[]> walkers = new ArrayList<>();
        List<int[]> things = new ArrayList<>();
        List<int[]> stages = new ArrayList<>();
        Now now = new Now(this);
        List<Now> past = new ArrayList<>();
        Now[] imageNow = new Now[2];
        List<List<Now>> imagePast = new ArrayList<>(Arrays.asList(null, null));
        List<int[]> book = new ArrayList<>();
        long trace = 0;

        boolean isWalker(int w) {
            return w >= 0 && w < walkers.size();
        }

        boolean isThing(int t) {
            return t >= 0 && t < things.size();
        }

        boolean isEither(int what) {
            return what == 0 || what == 1;
        }

        boolean rains(int s) {
            return stages.get(s)[1] == 1;
        }

        boolean hasStage() {
            return now.day < stages.size();
        }

        List<Integer> byNumbers() {
            List<Integer> row = new ArrayList<>();
            for (int t = 0; t < things.size(); t++) {
                row.add(t);
            }
            return row;
        }

        int type(int c) {
            if (c < 0 || c > 255) {
                return -1;
            }
            if (text.length() >= 200) {
                return -3;
            }
            text += (char) c;
            return text.length();
        }

        int clear() {
            int had = text.length();
            text = "";
            return had;
        }

        int way() {
            List<List<int[]>> read = List.of(new ArrayList<>(), new ArrayList<>(), new ArrayList<>());
            int[][] least = {{1, 0}, {1, 0, 0, 0, 0}, {1, 0, 0}};
            int[][] most = {{40, 5}, {20, 9, 1, 3, 0}, {20, 1, 1}};
            int[] room = {4, 7, 8};
            int items = 0;
            int kind = -1;
            int[] item = null;
            int at = 0;
            Matcher m = TOKEN.matcher(text);
            while (m.find()) {
                String token = m.group();
                int fault = -10 - m.start();
                if (kind < 0) {
                    kind = token.length() == 1 ? "wts".indexOf(token) : -1;
                    if (kind < 0 || read.get(kind).size() == room[kind]) {
                        return fault;
                    }
                    item = new int[least[kind].length];
                    at = 0;
                } else if (at == item.length) {
                    if (!token.equals(";")) {
                        return fault;
                    }
                    read.get(kind).add(item);
                    items++;
                    kind = -1;
                } else {
                    if (!token.matches("0|[1-9][0-9]?")) {
                        return fault;
                    }
                    int top = kind == 1 && at == 4 ? read.get(0).size() - 1 : most[kind][at];
                    item[at] = Integer.parseInt(token);
                    if (item[at] < least[kind][at] || item[at] > top) {
                        return fault;
                    }
                    at++;
                }
            }
            if (kind >= 0) {
                return -10 - text.length();
            }
            walkers = read.get(0);
            things = read.get(1);
            stages = read.get(2);
            now = new Now(this);
            past = new ArrayList<>();
            imageNow = new Now[2];
            book = new ArrayList<>();
            text = "";
            return items;
        }

        int walker(int w, int what) {
            if (!isWalker(w) || what < 0 || what > 5) {
                return -1;
            }
            int bits = 0;
            for (int t = 0; t < things.size(); t++) {
                bits += now.who[t] == w ? 1 << t : 0;
            }
            return new int[] {walkers.get(w)[0], walkers.get(w)[1], now.tired[w], now.load(w),
                now.pace(w, now.load(w)), bits}[what];
        }

        int thing(int t, int what) {
            if (!isThing(t) || what < 0 || what > 7) {
                return -1;
            }
            int[] told = things.get(t);
            return new int[] {told[0], told[1], told[2], told[3], now.who[t], now.left[t], now.wet[t] ? 1 : 0,
                now.weighs(t)}[what];
        }

        int stage(int s, int what) {
            return s < 0 || s >= stages.size() || what < 0 || what > 2 ? -1 : stages.get(s)[what];
        }

        void remember() {
            past.add(now.copy());
            if (past.size() > 10) {
                past.remove(0);
            }
        }

        int gives(int t, int w) {
            if (!isThing(t) || !isWalker(w)) {
                return -1;
            }
            int who = now.who[t];
            if (who == 9 || who == w) {
                return -2;
            }
            remember();
            now.who[t] = w;
            now.given++;
            return who;
        }

        boolean atHut() {
            return now.day == 0 || stages.get(now.day - 1)[2] == 1;
        }

        int leaves(int t) {
            if (!isThing(t)) {
                return -1;
            }
            int who = now.who[t];
            if (who == 9 || !atHut()) {
                return -2;
            }
            remember();
            now.who[t] = 9;
            return who;
        }

        int goes() {
            if (!hasStage()) {
                return -2;
            }
            remember();
            return now.go(rains(now.day), byNumbers());
        }

        int undo() {
            if (past.isEmpty()) {
                return -2;
            }
            now = past.remove(past.size() - 1).copy();
            return past.size();
        }

        int now(int what) {
            List<Integer> loads = new ArrayList<>();
            List<Integer> breaths = new ArrayList<>();
            for (int w = 0; w < walkers.size(); w++) {
                loads.add(now.load(w));
                breaths.add(now.force(w) - now.load(w));
            }
            int parted = 0;
            for (int p = 1; p <= 3; p++) {
                List<Integer> bearers = new ArrayList<>();
                for (int t = 0; t < things.size(); t++) {
                    if (things.get(t)[3] == p && !bearers.contains(now.who[t])) {
                        bearers.add(now.who[t]);
                    }
                }
                parted += bearers.size() > 1 ? 1 << p : 0;
            }
            switch (what) {
                case 0: return now.day;
                case 1: return now.minutes;
                case 2: return now.hunger;
                case 3: return atHut() ? 1 : 0;
                case 4: return spread(loads);
                case 5: return spread(breaths);
                case 6: return parted;
                case 7: return now.given;
                default: return -1;
            }
        }

        static int spread(List<Integer> numbers) {
            List<Integer> sorted = new ArrayList<>(numbers);
            sorted.sort(null);
            return sorted.isEmpty() ? 0 : sorted.get(sorted.size() - 1) - sorted.get(0);
        }

        Now atEnd(List<Integer> row, int weather) {
            Now n = now.copy();
            n.minutes = 0;
            n.hunger = 0;
            for (int s = now.day; s < stages.size(); s++) {
                n.go(weather < 0 ? rains(s) : (weather >> s - now.day & 1) == 1, row);
            }
            return n;
        }

        int rest(int what) {
            if (!isEither(what)) {
                return -1;
            }
            Now end = atEnd(byNumbers(), -1);
            return what == 0 ? end.minutes : end.hunger;
        }

        int spent(int what) {
            if (!isEither(what)) {
                return -1;
            }
            Now n = now.copy();
            for (int s = now.day; s < stages.size(); s++) {
                Now wet = n.copy();
                if (rains(s)) {
                    wet.rain();
                }
                for (int w = 0; w < walkers.size(); w++) {
                    if (wet.force(w) - wet.load(w) + 10 <= 1) {
                        return what == 0 ? w : s;
                    }
                }
                n.go(rains(s), byNumbers());
            }
            return -9;
        }

        Now onStage() {
            Now n = now.copy();
            if (rains(now.day)) {
                n.rain();
            }
            return n;
        }

        int stageMinutes() {
            return hasStage() ? onStage().slowest(stages.get(now.day)[0]) : 0;
        }

        int soonest(int asked) {
            if (asked < -2 || asked >= things.size()) {
                return -1;
            }
            if (!hasStage() || walkers.isEmpty()) {
                return -9;
            }
            Now n = onStage();
            int length = stages.get(now.day)[0];
            int[][] takes = new int[walkers.size()][300];
            for (int w = 0; w < walkers.size(); w++) {
                for (int load = 0; load < 300; load++) {
                    takes[w][load] = n.minutes(w, load, length);
                }
            }
            long best = Long.MAX_VALUE;
            int[] bestWho = null;
            int ways = (int) Math.pow(walkers.size(), things.size());
            for (int way = 0; way < ways; way++) {
                int digits = way;
                int[] who = now.who.clone();
                int[] loads = new int[walkers.size()];
                boolean told = true;
                for (int t = things.size() - 1; t >= 0; t--) {
                    int w = digits % walkers.size();
                    digits /= walkers.size();
                    if (who[t] == 9) {
                        told &= w == 0;
                    } else {
                        who[t] = w;
                        loads[w] += n.weighs(t);
                    }
                }
                int minutes = 0;
                for (int w = 0; w < walkers.size(); w++) {
                    minutes = Math.max(minutes, takes[w][loads[w]]);
                }
                Arrays.sort(loads);
                long worth = 1000L * minutes + loads[loads.length - 1] - loads[0];
                if (told && worth < best) {
                    best = worth;
                    bestWho = who;
                }
            }
            return asked == -1 ? (int) (best / 1000) : asked == -2 ? (int) (best % 1000) : bestWho[asked];
        }

        int helps() {
            if (!hasStage()) {
                return -9;
            }
            int length = stages.get(now.day)[0];
            int least = stageMinutes();
            int gift = -9;
            for (int pair = 0; pair < 10 * things.size(); pair++) {
                int t = pair / 10;
                int w = pair % 10;
                if (w < walkers.size() && now.who[t] != 9 && now.who[t] != w) {
                    Now n = onStage();
                    n.who[t] = w;
                    if (n.slowest(length) < least) {
                        least = n.slowest(length);
                        gift = pair;
                    }
                }
            }
            return gift;
        }

        int leave(int m, int what) {
            if (m < 0 || m > 999 || !isEither(what)) {
                return -1;
            }
            if (!hasStage()) {
                return -9;
            }
            int best = -9;
            int least = 0;
            for (int set = 0; set < 1 << things.size(); set++) {
                Now n = onStage();
                int left = 0;
                boolean food = false;
                for (int t = 0; t < things.size(); t++) {
                    if ((set >> t & 1) == 1) {
                        left += n.left[t];
                        food |= things.get(t)[2] == 1;
                        n.who[t] = 9;
                    }
                }
                if (!food && n.slowest(stages.get(now.day)[0]) <= m && (best < 0 || left < least)) {
                    best = set;
                    least = left;
                }
            }
            return best < 0 || what == 0 ? best : least;
        }

        int eat(int what) {
            if (!isEither(what)) {
                return -1;
            }
            List<Integer> foods = new ArrayList<>();
            for (int t = 0; t < things.size(); t++) {
                if (things.get(t)[2] == 1) {
                    foods.add(t);
                }
            }
            long[] best = {Long.MAX_VALUE};
            eatAll(foods, new ArrayList<>(), best);
            return (int) (what == 0 ? best[0] % 100000000L : best[0] / 100000000000L);
        }

        void eatAll(List<Integer> foods, List<Integer> row, long[] best) {
            if (row.size() == foods.size()) {
                Now end = atEnd(row, -1);
                long figures = 0;
                for (int t : row) {
                    figures = 10 * figures + t + 1;
                }
                best[0] = Math.min(best[0], (1000L * end.minutes + end.hunger) * 100000000L + figures);
                return;
            }
            for (int t : foods) {
                if (!row.contains(t)) {
                    row.add(t);
                    eatAll(foods, row, best);
                    row.remove(row.size() - 1);
                }
            }
        }

        int truly(int w, int length, int minutes, int what) {
            if (!isLine(w, length, minutes) || !isEither(what)) {
                return -1;
            }
            List<Integer> loads = new ArrayList<>();
            for (int load = 0; load <= 99; load++) {
                if (now.minutes(w, load, length) == minutes) {
                    loads.add(load);
                }
            }
            return loads.isEmpty() ? -9 : loads.get(what == 0 ? 0 : loads.size() - 1);
        }

        boolean isLine(int w, int length, int minutes) {
            return isWalker(w) && length >= 1 && length <= 20 && minutes >= 1 && minutes <= 999;
        }

        long odds(int x, int m, int what) {
            if (x < 0 || x > 10 || m < 0 || m > 9999 || !isEither(what)) {
                return -1;
            }
            int many = stages.size() - now.day;
            BigInteger upper = BigInteger.ZERO;
            for (int weather = 0; weather < 1 << many; weather++) {
                if (atEnd(byNumbers(), weather).minutes <= m) {
                    int rainy = Integer.bitCount(weather);
                    upper = upper.add(BigInteger.valueOf(x).pow(rainy).multiply(BigInteger.valueOf(10 - x).pow(many - rainy)));
                }
            }
            BigInteger lower = BigInteger.TEN.pow(many);
            BigInteger common = upper.gcd(lower);
            return (what == 0 ? upper : lower).divide(common).longValueExact();
        }

        int book(int w, int length, int minutes) {
            if (!isLine(w, length, minutes)) {
                return -1;
            }
            if (book.size() == 6) {
                return -3;
            }
            book.add(new int[] {w, length, minutes});
            return book.size();
        }

        int burn() {
            int had = book.size();
            book.clear();
            return had;
        }

        int sacks(int what) {
            if (!isEither(what)) {
                return -1;
            }
            List<Integer> gifts = new ArrayList<>();
            for (int t = 0; t < things.size(); t++) {
                for (int w = 0; w < walkers.size(); w++) {
                    Now n = now.copy();
                    n.who[t] = w;
                    boolean so = now.who[t] != 9 && now.who[t] != w;
                    for (int[] line : book) {
                        so &= n.minutes(line[0], n.load(line[0]), line[1]) == line[2];
                    }
                    if (so) {
                        gifts.add(10 * t + w);
                    }
                }
            }
            return what == 0 ? gifts.size() : gifts.isEmpty() ? -9 : gifts.get(0);
        }

        int mark(int kind, int t) {
            if (kind < 0 || kind > 5 || !isThing(t)) {
                return -1000000;
            }
            trace += new int[] {1, 11, 101, 1011, 10101, 100001}[kind];
            int weighs = now.weighs(t);
            int soaks = things.get(t)[1];
            int pounds = things.get(t)[0];
            return new int[] {weighs, weighs + soaks, weighs - pounds, 2 * (weighs + soaks), weighs - pounds + now.day,
                weighs + now.given}[kind];
        }

        int keep(int image) {
            if (!isEither(image)) {
                return -1;
            }
            imageNow[image] = now.copy();
            imagePast.set(image, new ArrayList<>(past));
            return now.day;
        }

        int back(int image) {
            if (!isEither(image)) {
                return -1;
            }
            if (imageNow[image] == null) {
                return -2;
            }
            now = imageNow[image].copy();
            past = new ArrayList<>();
            for (Now n : imagePast.get(image)) {
                past.add(n.copy());
            }
            return now.day;
        }

        int count(int what) {
            return what < 0 || what > 5 ? -1
                : new int[] {walkers.size(), things.size(), stages.size(), book.size(), past.size(), text.length()}[what];
        }
    }
}
