import java.util.ArrayList;
import java.util.List;
import java.util.Random;

/**
 * Random runs of 512 calls, the same each time, on a FlagChamber and on a second, slower writing of the
 * document that shares no way of working with it: recursion over texts, needs and audiences, and one list
 * of all that happened, from which everything else is asked anew.
 */
public final class RandomRunsTest {
    private static final int RUNS = 1500;
    private static final int CALLS = 512;
    private static final long NO_ARGUMENT = 1L << 40, NO_INDEX = 1L << 41, NO_STATE = 1L << 42, OTHER = 1L << 43;

    /** What happened, as the terms of the document tell it. */
    private static final class Event {
        String kind;
        int person = -1;
        int flag = -1;
        int trial = -1;
        int variant = -1;
        boolean keeps;
    }

    private static final class Model {
        final int[][] attributes = new int[20][3];
        final boolean[][] tags = new boolean[20][8];
        final String[] drafts = {"", "", "", "", "", ""};
        final String[] rules = new String[6];
        final List<List<int[]>> flags = new ArrayList<>();
        final boolean[][] needs = new boolean[8][8];
        final int[][] shares = new int[6][4];
        final int[] salts = new int[6];
        final int[] stopped = {-1, -1, -1, -1, -1, -1};
        final List<Event> events = new ArrayList<>();

        Model() {
            for (int i = 0; i < 8; i++) {
                flags.add(new ArrayList<>());
            }
        }

        // ---- texts: a recursive descent, for the fault with no person, otherwise for one person

        String text;
        int at;
        int fault;
        int open;

        int faultOf(String draft) {
            text = draft;
            at = 0;
            open = 0;
            fault = -1;
            expression(-1);
            if (fault < 0 && at < text.length()) {
                fault = at;
            }
            return fault;
        }

        boolean expression(int person) {
            boolean any = term(person);
            while (fault < 0 && next('|')) {
                any = term(person) || any;
            }
            return any;
        }

        boolean term(int person) {
            boolean all = factor(person);
            while (fault < 0 && next('&')) {
                all = factor(person) && all;
            }
            return all;
        }

        boolean factor(int person) {
            if (fault >= 0) {
                return false;
            }
            if (next('!')) {
                return !factor(person);
            }
            if (open < 8 && next('(')) {
                open++;
                boolean inside = expression(person);
                open--;
                if (fault < 0 && !next(')')) {
                    fault = at;
                }
                return inside;
            }
            if (next('*')) {
                return true;
            }
            if (next('t')) {
                int tag = digit(7);
                return fault < 0 && person >= 0 && tags[person][tag];
            }
            if (next('@')) {
                int audience = digit(5);
                return fault < 0 && person >= 0 && isInside(audience, person);
            }
            for (int attribute = 0; attribute < 3; attribute++) {
                if (next("lap".charAt(attribute))) {
                    return comparison(attribute, person);
                }
            }
            fault = at;
            return false;
        }

        boolean comparison(int attribute, int person) {
            int relation = next('=') ? 0 : next('<') ? -1 : next('>') ? 1 : 5;
            if (relation == 5) {
                fault = at;
                return false;
            }
            int number = digit(9);
            if (fault < 0 && at < text.length() && Character.isDigit(text.charAt(at))) {
                number = 10 * number + digit(9);
            }
            return fault < 0 && person >= 0 && Integer.signum(attributes[person][attribute] - number) == relation;
        }

        boolean next(char sign) {
            boolean is = at < text.length() && text.charAt(at) == sign;
            at += is ? 1 : 0;
            return is;
        }

        int digit(int most) {
            if (fault < 0) {
                for (int i = 0; i <= most; i++) {
                    if (next((char) ('0' + i))) {
                        return i;
                    }
                }
                fault = at;
            }
            return 0;
        }

        boolean isInside(int audience, int person) {
            if (rules[audience] == null) {
                return false;
            }
            String outerText = text;
            int outerAt = at;
            int outerOpen = open;
            int outerFault = fault;
            text = rules[audience];
            at = 0;
            open = 0;
            fault = -1;
            boolean is = expression(person);
            text = outerText;
            at = outerAt;
            open = outerOpen;
            fault = outerFault;
            return is;
        }

        boolean refers(int audience, int sought, int depth) {
            if (rules[audience] == null || depth > 6) {
                return false;
            }
            for (int other = 0; other < 6; other++) {
                if (rules[audience].contains("@" + other) && (other == sought || refers(other, sought, depth + 1))) {
                    return true;
                }
            }
            return false;
        }

        boolean canBeSet(int audience) {
            if (faultOf(drafts[audience]) >= 0) {
                return false;
            }
            String before = rules[audience];
            rules[audience] = drafts[audience];
            boolean loops = refers(audience, audience, 0);
            rules[audience] = before;
            return !loops;
        }

        // ---- what happened

        int keptBy(int trial, int person) {
            int found = -1;
            for (Event e : events) {
                if (e.trial == trial && e.kind.equals("begin")) {
                    found = -1;
                } else if (e.trial == trial && e.person == person && e.keeps) {
                    found = e.variant;
                }
            }
            return found;
        }

        int shownBy(int trial, int person, int flag, int before) {
            int found = -1;
            for (Event e : events.subList(0, before)) {
                if (e.trial == trial && e.kind.equals("begin")) {
                    found = -1;
                } else if (e.trial == trial && e.kind.equals("show") && e.person == person && e.flag == flag) {
                    found = e.variant;
                }
            }
            return found;
        }

        /** The frozen variant in place 7, and 1 in the places of those that hold it: the trials, and 6 for itself. */
        int[] holders(int person, int flag) {
            int[] found = new int[8];
            for (int i = 0; i < events.size(); i++) {
                Event e = events.get(i);
                boolean mine = e.person == person && e.flag == flag;
                boolean free = count(found) == 0;
                if (e.kind.equals("hold") && mine) {
                    found[6] = 1;
                    found[7] = free ? e.variant : found[7];
                } else if (e.kind.equals("release") && mine) {
                    found[6] = 0;
                } else if (e.kind.equals("holdTrial") && shownBy(e.trial, person, flag, i) >= 0) {
                    found[e.trial] = 1;
                    found[7] = free ? shownBy(e.trial, person, flag, i) : found[7];
                } else if (e.kind.equals("releaseTrial")) {
                    found[e.trial] = 0;
                }
            }
            return found;
        }

        static int count(int[] holders) {
            int count = 0;
            for (int i = 0; i < 7; i++) {
                count += holders[i];
            }
            return count;
        }

        boolean trialHeld(int trial) {
            boolean held = false;
            for (Event e : events) {
                if (e.trial == trial && e.kind.endsWith("Trial")) {
                    held = e.kind.equals("holdTrial");
                }
            }
            return held;
        }

        int lastShown(int person, int flag) {
            int found = -1;
            for (Event e : events) {
                if (e.kind.equals("show") && e.person == person && e.flag == flag) {
                    found = e.variant;
                }
            }
            return found;
        }

        // ---- views

        int armOf(int trial, int person) {
            if (stopped[trial] >= 0) {
                return stopped[trial];
            }
            int keeps = keptBy(trial, person);
            if (keeps >= 0) {
                return keeps;
            }
            long s = 0;
            for (int share : shares[trial]) {
                s += share;
            }
            if (s == 0) {
                return 0;
            }
            long b = ((7919L * person + 104729L * salts[trial] + 13L) % 1000003L) % s;
            for (int v = 0; ; v++) {
                long together = 0;
                for (int i = 0; i <= v; i++) {
                    together += shares[trial][i];
                }
                if (together > b) {
                    return v;
                }
            }
        }

        int deciding(int person, int flag) {
            for (int i = 0; i < flags.get(flag).size(); i++) {
                if (isInside(flags.get(flag).get(i)[0], person)) {
                    return i;
                }
            }
            return -1;
        }

        boolean stands(int person, int flag) {
            for (int other = 0; other < 8; other++) {
                if (needs[flag][other] && viewOf(person, other) == 0) {
                    return false;
                }
            }
            return true;
        }

        int viewOf(int person, int flag) {
            int[] holders = holders(person, flag);
            if (count(holders) > 0) {
                return holders[7];
            }
            int rule = deciding(person, flag);
            if (rule < 0 || !stands(person, flag)) {
                return 0;
            }
            int outcome = flags.get(flag).get(rule)[1];
            return outcome < 4 ? outcome : armOf(outcome - 4, person);
        }

        boolean needed(int flag, int sought, int depth) {
            for (int other = 0; other < 8 && depth < 9; other++) {
                if (needs[flag][other] && (other == sought || needed(other, sought, depth + 1))) {
                    return true;
                }
            }
            return false;
        }

        // ---- the calls, with their numbers in the order of the document

        long call(int number, int[] a) {
            switch (number) {
                case 0: return setAttribute(a);
                case 1: return setTag(a);
                case 2: return type(a);
                case 3: return erase(a);
                case 4: return signOf(a);
                case 5: return out(a[0], 6) ? NO_ARGUMENT : faultOf(drafts[a[0]]);
                case 6: return set(a);
                case 7: return wouldMove(a);
                case 8: return out(a[0], 6) || out(a[1], 20) ? NO_ARGUMENT : isInside(a[0], a[1]) ? 1 : 0;
                case 9: return addRule(a);
                case 10: return removeRule(a);
                case 11: return out(a[0], 8) ? NO_ARGUMENT : flags.get(a[0]).size();
                case 12: return setNeed(a);
                case 13: return noView(a) ? NO_ARGUMENT : viewOf(a[0], a[1]);
                case 14: return noView(a) ? NO_ARGUMENT : viewOf(a[0], a[1]);
                case 15: return noView(a) ? NO_ARGUMENT : deciding(a[0], a[1]);
                case 16: return reach(a);
                case 17: return show(a);
                case 18: return setShares(a);
                case 19: return setSalt(a);
                case 20: return stop(a);
                case 21: return beginAnew(a);
                case 22: return out(a[0], 6) || out(a[1], 20) ? NO_ARGUMENT : armOf(a[0], a[1]);
                case 23: return out(a[0], 6) || out(a[1], 20) ? NO_ARGUMENT : keptBy(a[0], a[1]);
                case 24: return hold(a);
                case 25: return release(a);
                case 26: return holdTrial(a);
                case 27: return releaseTrial(a);
                case 28: return noView(a) ? NO_ARGUMENT : count(holders(a[0], a[1])) > 0 ? 1 : 0;
                case 29: return events.size();
                default: return noView(a) ? NO_ARGUMENT : lastShown(a[0], a[1]);
            }
        }

        static boolean out(int value, int below) {
            return value < 0 || value >= below;
        }

        static boolean noView(int[] a) {
            return out(a[0], 20) || out(a[1], 8);
        }

        boolean full() {
            return events.size() >= 400;
        }

        void happen(String kind, int person, int flag, int trial, int variant, boolean keeps) {
            Event e = new Event();
            e.kind = kind;
            e.person = person;
            e.flag = flag;
            e.trial = trial;
            e.variant = variant;
            e.keeps = keeps;
            events.add(e);
        }

        long setAttribute(int[] a) {
            if (out(a[0], 20) || out(a[1], 3) || out(a[2], new int[] {10, 100, 4}[a[1]])) {
                return NO_ARGUMENT;
            }
            int before = attributes[a[0]][a[1]];
            attributes[a[0]][a[1]] = a[2];
            return before;
        }

        long setTag(int[] a) {
            if (out(a[0], 20) || out(a[1], 8)) {
                return NO_ARGUMENT;
            }
            boolean before = tags[a[0]][a[1]];
            tags[a[0]][a[1]] = a[2] > 0;
            return before ? 1 : 0;
        }

        long type(int[] a) {
            if (out(a[0], 6) || a[1] < 33 || a[1] > 126) {
                return NO_ARGUMENT;
            }
            if (drafts[a[0]].length() == 60) {
                return NO_STATE;
            }
            drafts[a[0]] += (char) a[1];
            return drafts[a[0]].length();
        }

        long erase(int[] a) {
            if (out(a[0], 6) || a[1] < 1) {
                return NO_ARGUMENT;
            }
            for (int i = 0; i < a[1] && !drafts[a[0]].isEmpty(); i++) {
                drafts[a[0]] = drafts[a[0]].substring(0, drafts[a[0]].length() - 1);
            }
            return drafts[a[0]].length();
        }

        long signOf(int[] a) {
            if (out(a[0], 6)) {
                return NO_ARGUMENT;
            }
            return out(a[1], drafts[a[0]].length()) ? NO_INDEX : drafts[a[0]].charAt(a[1]);
        }

        long set(int[] a) {
            if (out(a[0], 6)) {
                return NO_ARGUMENT;
            }
            if (!canBeSet(a[0])) {
                return NO_STATE;
            }
            boolean[] before = new boolean[20];
            for (int person = 0; person < 20; person++) {
                before[person] = isInside(a[0], person);
            }
            rules[a[0]] = drafts[a[0]];
            int moved = 0;
            for (int person = 0; person < 20; person++) {
                moved += before[person] != isInside(a[0], person) ? 1 : 0;
            }
            return moved;
        }

        long wouldMove(int[] a) {
            if (out(a[0], 6)) {
                return NO_ARGUMENT;
            }
            if (!canBeSet(a[0])) {
                return NO_STATE;
            }
            String rule = rules[a[0]];
            int moved = 0;
            for (int person = 0; person < 20; person++) {
                boolean moves = false;
                for (int flag = 0; flag < 8; flag++) {
                    int before = viewOf(person, flag);
                    rules[a[0]] = drafts[a[0]];
                    moves |= before != viewOf(person, flag);
                    rules[a[0]] = rule;
                }
                moved += moves ? 1 : 0;
            }
            return moved;
        }

        long addRule(int[] a) {
            if (out(a[0], 8) || out(a[2], 6) || out(a[3], 10)) {
                return NO_ARGUMENT;
            }
            if (out(a[1], flags.get(a[0]).size() + 1)) {
                return NO_INDEX;
            }
            if (flags.get(a[0]).size() == 5) {
                return NO_STATE;
            }
            flags.get(a[0]).add(a[1], new int[] {a[2], a[3]});
            return flags.get(a[0]).size();
        }

        long removeRule(int[] a) {
            if (out(a[0], 8)) {
                return NO_ARGUMENT;
            }
            return out(a[1], flags.get(a[0]).size()) ? NO_INDEX : flags.get(a[0]).remove(a[1])[1];
        }

        long setNeed(int[] a) {
            if (out(a[0], 8) || out(a[1], 8) || a[0] == a[1]) {
                return NO_ARGUMENT;
            }
            boolean before = needs[a[0]][a[1]];
            needs[a[0]][a[1]] = a[2] > 0;
            if (a[2] > 0 && needed(a[0], a[0], 0)) {
                needs[a[0]][a[1]] = before;
                return NO_STATE;
            }
            return before ? 1 : 0;
        }

        long reach(int[] a) {
            if (out(a[0], 8) || out(a[1], 4)) {
                return NO_ARGUMENT;
            }
            int count = 0;
            for (int person = 0; person < 20; person++) {
                count += viewOf(person, a[0]) == a[1] ? 1 : 0;
            }
            return count;
        }

        long show(int[] a) {
            if (noView(a)) {
                return NO_ARGUMENT;
            }
            if (full()) {
                return NO_STATE;
            }
            int variant = viewOf(a[0], a[1]);
            int rule = deciding(a[0], a[1]);
            int trial = rule < 0 ? -1 : flags.get(a[1]).get(rule)[1] - 4;
            if (count(holders(a[0], a[1])) > 0 || trial < 0 || !stands(a[0], a[1])) {
                trial = -1;
            }
            boolean keeps = trial >= 0 && stopped[trial] < 0 && keptBy(trial, a[0]) < 0;
            happen("show", a[0], a[1], trial, variant, keeps);
            return variant;
        }

        long setShares(int[] a) {
            if (out(a[0], 6) || out(a[1], 101) || out(a[2], 101) || out(a[3], 101) || out(a[4], 101)) {
                return NO_ARGUMENT;
            }
            if (trialHeld(a[0])) {
                return NO_STATE;
            }
            int before = 0;
            for (int i = 0; i < 4; i++) {
                before += shares[a[0]][i];
                shares[a[0]][i] = a[i + 1];
            }
            return before;
        }

        long setSalt(int[] a) {
            if (out(a[0], 6) || out(a[1], 1001)) {
                return NO_ARGUMENT;
            }
            if (trialHeld(a[0])) {
                return NO_STATE;
            }
            int before = salts[a[0]];
            salts[a[0]] = a[1];
            return before;
        }

        long stop(int[] a) {
            if (out(a[0], 6) || out(a[1], 4)) {
                return NO_ARGUMENT;
            }
            if (trialHeld(a[0])) {
                return NO_STATE;
            }
            int count = 0;
            for (int person = 0; person < 20; person++) {
                count += armOf(a[0], person) != a[1] ? 1 : 0;
            }
            stopped[a[0]] = a[1];
            return count;
        }

        long beginAnew(int[] a) {
            if (out(a[0], 6)) {
                return NO_ARGUMENT;
            }
            if (trialHeld(a[0]) || full()) {
                return NO_STATE;
            }
            int count = 0;
            for (int person = 0; person < 20; person++) {
                count += keptBy(a[0], person) >= 0 ? 1 : 0;
            }
            happen("begin", -1, -1, a[0], -1, false);
            stopped[a[0]] = -1;
            return count;
        }

        long hold(int[] a) {
            if (noView(a)) {
                return NO_ARGUMENT;
            }
            if (holders(a[0], a[1])[6] == 1 || full()) {
                return NO_STATE;
            }
            int variant = viewOf(a[0], a[1]);
            happen("hold", a[0], a[1], -1, variant, false);
            return variant;
        }

        long release(int[] a) {
            if (noView(a)) {
                return NO_ARGUMENT;
            }
            if (holders(a[0], a[1])[6] == 0 || full()) {
                return NO_STATE;
            }
            happen("release", a[0], a[1], -1, -1, false);
            return viewOf(a[0], a[1]);
        }

        long holdTrial(int[] a) {
            if (out(a[0], 6)) {
                return NO_ARGUMENT;
            }
            if (trialHeld(a[0]) || full()) {
                return NO_STATE;
            }
            happen("holdTrial", -1, -1, a[0], -1, false);
            int count = 0;
            for (int i = 0; i < 160; i++) {
                count += holders(i / 8, i % 8)[a[0]];
            }
            return count;
        }

        long releaseTrial(int[] a) {
            if (out(a[0], 6)) {
                return NO_ARGUMENT;
            }
            if (!trialHeld(a[0]) || full()) {
                return NO_STATE;
            }
            int count = 0;
            for (int i = 0; i < 160; i++) {
                int[] holders = holders(i / 8, i % 8);
                count += holders[a[0]] == 1 && count(holders) == 1 ? 1 : 0;
            }
            happen("releaseTrial", -1, -1, a[0], -1, false);
            return count;
        }
    }

    private static long callReal(FlagChamber x, int number, int[] a) {
        switch (number) {
            case 0: return x.setAttribute(a[0], a[1], a[2]);
            case 1: return x.setTag(a[0], a[1], a[2] > 0) ? 1 : 0;
            case 2: return x.type(a[0], a[1]);
            case 3: return x.erase(a[0], a[1]);
            case 4: return x.sign(a[0], a[1]);
            case 5: return x.fault(a[0]);
            case 6: return x.set(a[0]);
            case 7: return x.wouldMove(a[0]);
            case 8: return x.isIn(a[0], a[1]) ? 1 : 0;
            case 9: return x.addRule(a[0], a[1], a[2], a[3]);
            case 10: return x.removeRule(a[0], a[1]);
            case 11: return x.rules(a[0]);
            case 12: return x.setNeed(a[0], a[1], a[2] > 0) ? 1 : 0;
            case 13: return x.view(a[0], a[1]);
            case 14: return x.viewByLog(a[0], a[1]);
            case 15: return x.ruleFor(a[0], a[1]);
            case 16: return x.reach(a[0], a[1]);
            case 17: return x.show(a[0], a[1]);
            case 18: return x.setShares(a[0], a[1], a[2], a[3], a[4]);
            case 19: return x.setSalt(a[0], a[1]);
            case 20: return x.stop(a[0], a[1]);
            case 21: return x.beginAnew(a[0]);
            case 22: return x.arm(a[0], a[1]);
            case 23: return x.kept(a[0], a[1]);
            case 24: return x.hold(a[0], a[1]);
            case 25: return x.release(a[0], a[1]);
            case 26: return x.holdTrial(a[0]);
            case 27: return x.releaseTrial(a[0]);
            case 28: return x.isHeld(a[0], a[1]) ? 1 : 0;
            case 29: return x.entries();
            default: return x.shownLast(a[0], a[1]);
        }
    }

    private static long answer(FlagChamber x, int number, int[] a) {
        try {
            return callReal(x, number, a);
        } catch (RuntimeException e) {
            Class<?> thrown = e.getClass();
            // What a list throws by itself has the same class, but comes from elsewhere.
            return !e.getStackTrace()[0].getClassName().startsWith("FlagChamber") ? OTHER
                    : thrown == IllegalArgumentException.class ? NO_ARGUMENT
                    : thrown == IndexOutOfBoundsException.class ? NO_INDEX
                    : thrown == IllegalStateException.class ? NO_STATE : OTHER;
        }
    }

    // ---- what the runs are made of

    /** For each call, a letter an argument, by which "pick" knows its range. */
    private static final String[] ARGUMENTS = {"pkv", "pgb", "ac", "am", "ai", "a", "a", "a", "ap", "frao", "fr", "f",
        "ffb", "pf", "pf", "pf", "fn", "pf", "xssss", "xz", "xn", "x", "xp", "xp", "pf", "pf", "x", "x",
        "pf", "", "pf"};
    /** How often each call comes: more of those that change what the others tell. */
    private static final int[] WEIGHTS = {8, 5, 0, 3, 1, 3, 6, 5, 3, 8, 3, 1,
        6, 6, 8, 2, 4, 16, 4, 2, 3, 2, 3, 3, 6, 5, 5, 4, 3, 1, 2};
    private static final int TYPE = 2, SET = 6, SHOW = 17;
    /** In some runs the log is filled so far by showings, so that the calls behind them come to its end. */
    private static final int LONG_LOG = 397, LONG_LOG_FROM = 55;
    private static final String[] TESTS = {"*", "l=1", "l<2", "a>40", "a<3", "p=0", "p>1", "t0", "t1", "@0", "@1", "@2",
        "@3", "@4", "@5"};
    private static final String SIGNS = "!!(()))||&&*lapt@=<>0123456789";

    private static final class Maker {
        final Random random;
        final int people;
        final int flags;
        final int trials;
        final boolean longLog;

        /** Small houses too, where the same few views, rules and trials meet often. */
        Maker(int run) {
            random = new Random(run);
            people = run % 3 == 0 ? 20 : 3;
            flags = run % 2 == 0 ? 8 : 3;
            trials = run % 4 < 2 ? 2 : 6;
            longLog = run % 10 == 9;
        }

        int[] arguments(String letters) {
            int[] a = new int[5];
            for (int i = 0; i < letters.length(); i++) {
                a[i] = random.nextInt(150) == 0 ? wild() : pick(letters.charAt(i), a);
            }
            return a;
        }

        int wild() {
            int[] some = {-1, Integer.MIN_VALUE, Integer.MAX_VALUE, 4, 6, 8, 10, 20, 101, 127, 1001};
            return some[random.nextInt(some.length)];
        }

        int pick(char letter, int[] soFar) {
            switch (letter) {
                case 'p': return random.nextInt(people);
                case 'k': return random.nextInt(3);
                case 'v': return soFar[1] == 1 ? random.nextInt(random.nextBoolean() ? 5 : 100) : random.nextInt(4);
                case 'g': return random.nextInt(random.nextInt(9) == 0 ? 8 : 2);
                case 'b': return random.nextInt(3) > 0 ? 1 : 0;
                case 'a': return random.nextInt(random.nextBoolean() ? 2 : 6);
                case 'm': return random.nextInt(3) > 0 ? 60 : 1 + random.nextInt(3);
                case 'i': return random.nextInt(9);
                case 'f': return random.nextInt(flags);
                case 'r': return random.nextInt(4) > 0 ? 0 : random.nextInt(6);
                case 'o': return random.nextInt(3) == 0 ? random.nextInt(4) : 4 + random.nextInt(trials);
                case 'n': return random.nextInt(4);
                case 'x': return random.nextInt(trials);
                case 's': return random.nextInt(3) == 0 ? 0 : random.nextInt(101);
                case 'z': return random.nextInt(1001);
                default: throw new IllegalStateException("no such letter: " + letter);
            }
        }

        int number() {
            int total = 0;
            for (int weight : WEIGHTS) {
                total += weight;
            }
            int left = random.nextInt(total);
            int number = 0;
            while (left >= WEIGHTS[number]) {
                left -= WEIGHTS[number];
                number++;
            }
            return number;
        }

        String expression(int depth) {
            StringBuilder text = new StringBuilder();
            int factors = 1 + random.nextInt(3);
            for (int i = 0; i < factors; i++) {
                if (i > 0) {
                    text.append(random.nextBoolean() ? '|' : '&');
                }
                for (int j = random.nextInt(4); j > 2; j--) {
                    text.append('!');
                }
                text.append(depth > 0 && random.nextInt(4) == 0 ? "(" + expression(depth - 1) + ")"
                        : TESTS[random.nextInt(TESTS.length)]);
            }
            return text.toString();
        }
    }

    private static boolean runFails(int run) {
        Maker maker = new Maker(run);
        FlagChamber x = new FlagChamber();
        Model model = new Model();
        StringBuilder told = new StringBuilder();
        String toType = "";
        int toAudience = 0;
        for (int i = 0; i < CALLS; i++) {
            int number = maker.number();
            int[] a = maker.arguments(ARGUMENTS[number]);
            if (!toType.isEmpty()) {
                number = TYPE;
                boolean right = maker.random.nextInt(100) > 0;
                int slip = SIGNS.charAt(maker.random.nextInt(SIGNS.length()));
                a = new int[] {toAudience, right ? toType.charAt(0) : slip};
                toType = toType.substring(1);
            } else if (i < 40 || maker.random.nextInt(40) == 0) {
                toAudience = maker.random.nextInt(6);
                toType = model.drafts[toAudience].isEmpty() ? maker.expression(2)
                        : (maker.random.nextBoolean() ? "|" : "&") + maker.expression(0);
                number = SET;
                a = new int[] {maker.random.nextInt(6)};
            }
            if (maker.longLog && i >= LONG_LOG_FROM && model.events.size() < LONG_LOG) {
                number = SHOW;
                a = maker.arguments(ARGUMENTS[SHOW]);
            }
            long want = model.call(number, a);
            long got = answer(x, number, a);
            told.append("call ").append(number).append(' ').append(java.util.Arrays.toString(a)).append(" due ")
                    .append(want).append(" got ").append(got).append('\n');
            if (want != got) {
                System.out.println("run " + run + ", call " + i + " is not as due:\n" + told);
                return true;
            }
        }
        return false;
    }

    /** Texts of any signs, where the fault is asked after each sign. */
    private static boolean textFails(int run) {
        Random random = new Random(run);
        FlagChamber x = new FlagChamber();
        Model model = new Model();
        for (int i = 0; i < 160; i++) {
            int[] sign = {0, SIGNS.charAt(random.nextInt(SIGNS.length()))};
            boolean right = model.call(TYPE, sign) == answer(x, TYPE, sign);
            int fault = x.fault(0);
            if (!right || fault != model.faultOf(model.drafts[0])) {
                System.out.println("the fault of " + model.drafts[0] + " is not as due: " + fault);
                return true;
            }
            if (fault >= 0 && fault < model.drafts[0].length()) {
                int[] last = {0, 1};
                model.call(3, last);
                x.erase(0, 1);
            }
        }
        return false;
    }

    public static void main(String[] args) {
        int runs = args.length > 0 ? Integer.parseInt(args[0]) : RUNS;
        for (int run = 0; run < runs; run++) {
            if (runFails(run) || textFails(run)) {
                System.exit(1);
            }
        }
    }
}
