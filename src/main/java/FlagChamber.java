import java.util.ArrayList;
import java.util.Arrays;

/**
 * A house of feature flags: audiences, flags with rules and needs, trials, holds and a log.
 *
 * <p>Sets of persons, audiences, flags and tags are bits of an int, the lowest for number 0.
 */
public final class FlagChamber {
    public static final int NONE = -1;
    public static final int LAND = 0, AGE = 1, PLAN = 2;

    private static final int PERSONS = 20, AUDIENCES = 6, FLAGS = 8, TRIALS = 6, VARIANTS = 4;
    private static final int ATTRIBUTES = 3, TAGS = 8;
    private static final int MOST_LAND = 9, MOST_AGE = 99, MOST_PLAN = 3;
    private static final int FIRST_SIGN = 33, LAST_SIGN = 126;
    private static final int MOST_SIGNS = 60, MOST_BRACKETS = 8, MOST_RULES = 5, MOST_ENTRIES = 400;
    private static final int MOST_SHARE = 100, MOST_SALT = 1000;
    private static final int EVERYBODY = (1 << PERSONS) - 1;
    /** The kinds of entries of the log. */
    private static final int SHOW = 0, SHOW_AND_KEEP = 1, HOLD = 2, RELEASE = 3;
    private static final int HOLD_TRIAL = 4, RELEASE_TRIAL = 5, BEGIN_ANEW = 6;
    /** The number of a view's own hold among its holders; those below are the trials. */
    private static final int ITSELF = TRIALS;

    private final People people = new People();
    private final Audiences audiences = new Audiences();
    private final Flag[] flags = new Flag[FLAGS];
    private final Graph needs = new Graph(FLAGS);
    private final Trial[] trials = new Trial[TRIALS];
    private final ArrayList<Entry> log = new ArrayList<Entry>();
    private final Past[] pasts = new Past[PERSONS];
    private final Past replayed = new Past();
    private final int[] views = new int[FLAGS];
    private final int[] otherViews = new int[FLAGS];

    public FlagChamber() {
        for (int person = 0; person < PERSONS; person++) {
            pasts[person] = new Past();
        }
        for (int flag = 0; flag < FLAGS; flag++) {
            flags[flag] = new Flag();
        }
        for (int trial = 0; trial < TRIALS; trial++) {
            trials[trial] = new Trial();
        }
    }

    // ---- persons

    public int setAttribute(int person, int attribute, int value) throws IllegalArgumentException {
        checkPerson(person);
        checkRange(attribute, LAND, PLAN);
        checkRange(value, 0, mostOf(attribute));
        int before = people.attributes[person][attribute];
        people.attributes[person][attribute] = value;
        audiences.settle(people);
        return before;
    }

    public boolean setTag(int person, int tag, boolean has) throws IllegalArgumentException {
        checkPerson(person);
        checkRange(tag, 0, TAGS - 1);
        boolean had = hasBit(people.tags[person], tag);
        people.tags[person] = withBit(people.tags[person], tag, has);
        audiences.settle(people);
        return had;
    }

    // ---- audiences

    public int type(int audience, int sign) throws IllegalArgumentException, IllegalStateException {
        checkAudience(audience);
        checkRange(sign, FIRST_SIGN, LAST_SIGN);
        Text draft = audiences.drafts[audience];
        if (draft.length >= MOST_SIGNS) {
            throw new IllegalStateException("the draft is full");
        }
        draft.append(sign);
        return draft.length;
    }

    public int erase(int audience, int many) throws IllegalArgumentException {
        checkAudience(audience);
        if (many < 1) {
            throw new IllegalArgumentException("at least one sign is to be erased");
        }
        Text draft = audiences.drafts[audience];
        draft.length = Math.max(0, draft.length - many);
        return draft.length;
    }

    public int sign(int audience, int index) throws IllegalArgumentException, IndexOutOfBoundsException {
        checkAudience(audience);
        Text draft = audiences.drafts[audience];
        if (index < 0 || index >= draft.length) {
            throw new IndexOutOfBoundsException("there is no such sign");
        }
        return draft.signAt(index);
    }

    public int fault(int audience) throws IllegalArgumentException {
        checkAudience(audience);
        return audiences.faultOf(audience);
    }

    public int set(int audience) throws IllegalArgumentException, IllegalStateException {
        checkAudience(audience);
        checkSettable(audience);
        audiences.tryDraft(audience, people);
        int moved = audiences.members[audience] ^ audiences.membersIfSet[audience];
        audiences.adoptDraft(audience);
        return Integer.bitCount(moved);
    }

    public int wouldMove(int audience) throws IllegalArgumentException, IllegalStateException {
        checkAudience(audience);
        checkSettable(audience);
        audiences.tryDraft(audience, people);
        int moved = 0;
        for (int person = 0; person < PERSONS; person++) {
            findViews(views, person, audiences.members, pasts[person]);
            findViews(otherViews, person, audiences.membersIfSet, pasts[person]);
            if (differ(views, otherViews)) {
                moved++;
            }
        }
        return moved;
    }

    public boolean isIn(int audience, int person) throws IllegalArgumentException {
        checkAudience(audience);
        checkPerson(person);
        return hasBit(audiences.members[audience], person);
    }

    // ---- flags

    public int addRule(int flag, int place, int audience, int outcome)
            throws IllegalArgumentException, IndexOutOfBoundsException, IllegalStateException {
        checkFlag(flag);
        checkAudience(audience);
        checkRange(outcome, 0, VARIANTS + TRIALS - 1);
        Flag ruled = flags[flag];
        if (place < 0 || place > ruled.count) {
            throw new IndexOutOfBoundsException("there is no such place");
        }
        if (ruled.count >= MOST_RULES) {
            throw new IllegalStateException("the flag has all the rules that it can have");
        }
        ruled.insert(place, audience, outcome);
        return ruled.count;
    }

    public int removeRule(int flag, int place) throws IllegalArgumentException, IndexOutOfBoundsException {
        checkFlag(flag);
        Flag ruled = flags[flag];
        if (place < 0 || place >= ruled.count) {
            throw new IndexOutOfBoundsException("there is no such rule");
        }
        int outcome = ruled.outcomeOf(place);
        ruled.delete(place);
        return outcome;
    }

    public int rules(int flag) throws IllegalArgumentException {
        checkFlag(flag);
        return flags[flag].count;
    }

    public boolean setNeed(int flag, int other, boolean does)
            throws IllegalArgumentException, IllegalStateException {
        checkFlag(flag);
        checkFlag(other);
        if (flag == other) {
            throw new IllegalArgumentException("a flag does not need itself");
        }
        int before = needs.targets[flag];
        int after = withBit(before, other, does);
        if (does && needs.wouldLoop(flag, after)) {
            throw new IllegalStateException("some flag would need itself");
        }
        needs.point(flag, after);
        return hasBit(before, other);
    }

    public int view(int person, int flag) throws IllegalArgumentException {
        checkPerson(person);
        checkFlag(flag);
        return viewNow(person, flag);
    }

    public int viewByLog(int person, int flag) throws IllegalArgumentException {
        checkPerson(person);
        checkFlag(flag);
        replayed.forget();
        for (int i = 0; i < log.size(); i++) {
            if (log.get(i).concerns(person)) {
                replayed.take(log.get(i));
            }
        }
        findViews(views, person, audiences.members, replayed);
        return views[flag];
    }

    public int ruleFor(int person, int flag) throws IllegalArgumentException {
        checkPerson(person);
        checkFlag(flag);
        return flags[flag].decidingRule(person, audiences.members);
    }

    public int reach(int flag, int variant) throws IllegalArgumentException {
        checkFlag(flag);
        checkVariant(variant);
        int reached = 0;
        for (int person = 0; person < PERSONS; person++) {
            if (viewNow(person, flag) == variant) {
                reached++;
            }
        }
        return reached;
    }

    public int show(int person, int flag) throws IllegalArgumentException, IllegalStateException {
        checkPerson(person);
        checkFlag(flag);
        checkLog();
        int variant = viewNow(person, flag);
        int trial = trialThatShows(person, flag);
        enter(new Entry(keeps(trial, person) ? SHOW_AND_KEEP : SHOW, person, flag, trial, variant));
        return variant;
    }

    // ---- trials

    public int setShares(int trial, int first, int second, int third, int fourth)
            throws IllegalArgumentException, IllegalStateException {
        checkTrial(trial);
        checkRange(first, 0, MOST_SHARE);
        checkRange(second, 0, MOST_SHARE);
        checkRange(third, 0, MOST_SHARE);
        checkRange(fourth, 0, MOST_SHARE);
        checkNotHeld(trial);
        int before = trials[trial].sumOfShares();
        trials[trial].share(first, second, third, fourth);
        return before;
    }

    public int setSalt(int trial, int salt) throws IllegalArgumentException, IllegalStateException {
        checkTrial(trial);
        checkRange(salt, 0, MOST_SALT);
        checkNotHeld(trial);
        int before = trials[trial].salt;
        trials[trial].salt = salt;
        return before;
    }

    public int stop(int trial, int variant) throws IllegalArgumentException, IllegalStateException {
        checkTrial(trial);
        checkVariant(variant);
        checkNotHeld(trial);
        int moved = 0;
        for (int person = 0; person < PERSONS; person++) {
            if (armNow(trial, person) != variant) {
                moved++;
            }
        }
        trials[trial].stoppedTo = variant;
        return moved;
    }

    public int beginAnew(int trial) throws IllegalArgumentException, IllegalStateException {
        checkTrial(trial);
        checkNotHeld(trial);
        checkLog();
        int keptArms = 0;
        for (int person = 0; person < PERSONS; person++) {
            if (pasts[person].keptArms[trial] != NONE) {
                keptArms++;
            }
        }
        trials[trial].stoppedTo = NONE;
        enter(new Entry(BEGIN_ANEW, NONE, NONE, trial, NONE));
        return keptArms;
    }

    public int arm(int trial, int person) throws IllegalArgumentException {
        checkTrial(trial);
        checkPerson(person);
        return armNow(trial, person);
    }

    public int kept(int trial, int person) throws IllegalArgumentException {
        checkTrial(trial);
        checkPerson(person);
        return pasts[person].keptArms[trial];
    }

    // ---- holds and the log

    public int hold(int person, int flag) throws IllegalArgumentException, IllegalStateException {
        checkPerson(person);
        checkFlag(flag);
        if (hasBit(pasts[person].holders[flag], ITSELF)) {
            throw new IllegalStateException("the view is held by itself");
        }
        checkLog();
        int variant = viewNow(person, flag);
        enter(new Entry(HOLD, person, flag, NONE, variant));
        return variant;
    }

    public int release(int person, int flag) throws IllegalArgumentException, IllegalStateException {
        checkPerson(person);
        checkFlag(flag);
        if (!hasBit(pasts[person].holders[flag], ITSELF)) {
            throw new IllegalStateException("the view is not held by itself");
        }
        checkLog();
        enter(new Entry(RELEASE, person, flag, NONE, NONE));
        return viewNow(person, flag);
    }

    public int holdTrial(int trial) throws IllegalArgumentException, IllegalStateException {
        checkTrial(trial);
        checkNotHeld(trial);
        checkLog();
        trials[trial].held = true;
        enter(new Entry(HOLD_TRIAL, NONE, NONE, trial, NONE));
        int holds = 0;
        for (int person = 0; person < PERSONS; person++) {
            holds += pasts[person].countHeldBy(trial);
        }
        return holds;
    }

    public int releaseTrial(int trial) throws IllegalArgumentException, IllegalStateException {
        checkTrial(trial);
        if (!trials[trial].held) {
            throw new IllegalStateException("the trial is not held");
        }
        checkLog();
        int released = 0;
        for (int person = 0; person < PERSONS; person++) {
            released += pasts[person].countHeldOnlyBy(trial);
        }
        trials[trial].held = false;
        enter(new Entry(RELEASE_TRIAL, NONE, NONE, trial, NONE));
        return released;
    }

    public boolean isHeld(int person, int flag) throws IllegalArgumentException {
        checkPerson(person);
        checkFlag(flag);
        return pasts[person].holders[flag] != 0;
    }

    public int entries() {
        return log.size();
    }

    public int shownLast(int person, int flag) throws IllegalArgumentException {
        checkPerson(person);
        checkFlag(flag);
        return pasts[person].shown[flag];
    }

    // ---- what the calls share

    private static void checkRange(int value, int least, int most) {
        if (value < least || value > most) {
            throw new IllegalArgumentException("an argument is out of range");
        }
    }

    private static void checkPerson(int person) {
        checkRange(person, 0, PERSONS - 1);
    }

    private static void checkAudience(int audience) {
        checkRange(audience, 0, AUDIENCES - 1);
    }

    private static void checkFlag(int flag) {
        checkRange(flag, 0, FLAGS - 1);
    }

    private static void checkTrial(int trial) {
        checkRange(trial, 0, TRIALS - 1);
    }

    private static void checkVariant(int variant) {
        checkRange(variant, 0, VARIANTS - 1);
    }

    private void checkSettable(int audience) {
        if (!audiences.canBeSet(audience)) {
            throw new IllegalStateException("the draft has a fault, or a rule would refer to its own audience");
        }
    }

    private void checkNotHeld(int trial) {
        if (trials[trial].held) {
            throw new IllegalStateException("the trial is held");
        }
    }

    private void checkLog() {
        if (log.size() >= MOST_ENTRIES) {
            throw new IllegalStateException("the log is full");
        }
    }

    private static int mostOf(int attribute) {
        return attribute == LAND ? MOST_LAND : attribute == AGE ? MOST_AGE : MOST_PLAN;
    }

    private static boolean hasBit(int bits, int number) {
        return (bits >> number & 1) != 0;
    }

    private static int withBit(int bits, int number, boolean on) {
        return on ? bits | 1 << number : bits & ~(1 << number);
    }

    private static boolean differ(int[] some, int[] others) {
        for (int flag = 0; flag < FLAGS; flag++) {
            if (some[flag] != others[flag]) {
                return true;
            }
        }
        return false;
    }

    private void enter(Entry entry) {
        log.add(entry);
        for (int person = 0; person < PERSONS; person++) {
            if (entry.concerns(person)) {
                pasts[person].take(entry);
            }
        }
    }

    private int viewNow(int person, int flag) {
        findViews(views, person, audiences.members, pasts[person]);
        return views[flag];
    }

    private int armNow(int trial, int person) {
        return trials[trial].armFor(person, pasts[person].keptArms[trial]);
    }

    /** Goes through the flags so that each comes behind those that it needs, and their views stand already. */
    private void findViews(int[] found, int person, int[] members, Past past) {
        int zeros = 0;
        for (int i = 0; i < FLAGS; i++) {
            int flag = needs.order[i];
            if (past.holders[flag] != 0) {
                found[flag] = past.frozen[flag];
            } else if ((needs.targets[flag] & zeros) != 0) {
                found[flag] = 0;
            } else {
                found[flag] = decidedView(person, flag, members, past);
            }
            zeros = withBit(zeros, flag, found[flag] == 0);
        }
    }

    private int decidedView(int person, int flag, int[] members, Past past) {
        int rule = flags[flag].decidingRule(person, members);
        if (rule == NONE) {
            return 0;
        }
        int trial = flags[flag].trialOf(rule);
        return trial == NONE ? flags[flag].outcomeOf(rule) : trials[trial].armFor(person, past.keptArms[trial]);
    }

    private int trialThatShows(int person, int flag) {
        if (pasts[person].holders[flag] != 0 || needsZero(person, flag)) {
            return NONE;
        }
        int rule = flags[flag].decidingRule(person, audiences.members);
        return rule == NONE ? NONE : flags[flag].trialOf(rule);
    }

    private boolean needsZero(int person, int flag) {
        findViews(views, person, audiences.members, pasts[person]);
        for (int other = 0; other < FLAGS; other++) {
            if (hasBit(needs.targets[flag], other) && views[other] == 0) {
                return true;
            }
        }
        return false;
    }

    private boolean keeps(int trial, int person) {
        return trial != NONE && trials[trial].stoppedTo == NONE && pasts[person].keptArms[trial] == NONE;
    }

    private static final class People {
        private final int[][] attributes = new int[PERSONS][ATTRIBUTES];
        private final int[] tags = new int[PERSONS];

        int whoCompares(int attribute, int relation, int number) {
            int who = 0;
            for (int person = 0; person < PERSONS; person++) {
                int value = attributes[person][attribute];
                boolean does = relation == '=' ? value == number : relation == '<' ? value < number : value > number;
                who = withBit(who, person, does);
            }
            return who;
        }

        int whoHasTag(int tag) {
            int who = 0;
            for (int person = 0; person < PERSONS; person++) {
                who = withBit(who, person, hasBit(tags[person], tag));
            }
            return who;
        }
    }

    /** A draft, or the rule that was made from one; an audience without a rule has an empty one. */
    private static final class Text {
        private final char[] signs = new char[MOST_SIGNS];
        private int length;

        void append(int sign) {
            if (length < MOST_SIGNS) {
                signs[length] = (char) sign;
                length++;
            }
        }

        /** Answers 0, which is no sign, where the text has none: who reads on need not look at the end. */
        int signAt(int index) {
            return index >= 0 && index < length ? signs[index] : 0;
        }

        int digitAt(int index) {
            int digit = signAt(index) - '0';
            return digit >= 0 && digit <= 9 ? digit : NONE;
        }

        int numberAt(int index) {
            int first = digitAt(index);
            int second = digitAt(index + 1);
            return second == NONE ? first : 10 * first + second;
        }

        void copy(Text other) {
            System.arraycopy(other.signs, 0, signs, 0, MOST_SIGNS);
            length = other.length;
        }

        int audiencesReferredTo() {
            int referred = 0;
            for (int i = 0; i < length; i++) {
                int audience = digitAt(i + 1);
                if (signs[i] == '@' && audience != NONE) {
                    referred = withBit(referred, audience, true);
                }
            }
            return referred;
        }
    }

    /** Reads a text from left to right; its state is what may stand next. */
    private static final class Reader {
        private static final int FACTOR = 0, RELATION = 1, NUMBER = 2, SECOND_DIGIT = 3;
        private static final int TAG = 4, AUDIENCE = 5, AFTER_FACTOR = 6;
        private int state;
        private int openBrackets;

        int findFault(Text text) {
            state = FACTOR;
            openBrackets = 0;
            for (int i = 0; i < text.length; i++) {
                state = stateAfter(text.signAt(i));
                if (state == NONE) {
                    return i;
                }
            }
            boolean mayEnd = openBrackets == 0 && (state == AFTER_FACTOR || state == SECOND_DIGIT);
            return mayEnd ? NONE : text.length;
        }

        private int stateAfter(int sign) {
            switch (state) {
                case FACTOR:
                    return stateInFactor(sign);
                case RELATION:
                    return sign == '=' || sign == '<' || sign == '>' ? NUMBER : NONE;
                case NUMBER:
                    return sign >= '0' && sign <= '9' ? SECOND_DIGIT : NONE;
                case SECOND_DIGIT:
                    return sign >= '0' && sign <= '9' ? AFTER_FACTOR : stateBehindFactor(sign);
                case TAG:
                    return sign >= '0' && sign < '0' + TAGS ? AFTER_FACTOR : NONE;
                case AUDIENCE:
                    return sign >= '0' && sign < '0' + AUDIENCES ? AFTER_FACTOR : NONE;
                default:
                    return stateBehindFactor(sign);
            }
        }

        private int stateInFactor(int sign) {
            switch (sign) {
                case '!':
                    return FACTOR;
                case '(':
                    openBrackets++;
                    return openBrackets <= MOST_BRACKETS ? FACTOR : NONE;
                case '*':
                    return AFTER_FACTOR;
                case 'l':
                case 'a':
                case 'p':
                    return RELATION;
                case 't':
                    return TAG;
                case '@':
                    return AUDIENCE;
                default:
                    return NONE;
            }
        }

        private int stateBehindFactor(int sign) {
            switch (sign) {
                case '|':
                case '&':
                    return FACTOR;
                case ')':
                    openBrackets--;
                    return openBrackets >= 0 ? AFTER_FACTOR : NONE;
                default:
                    return NONE;
            }
        }
    }

    /** Finds who meets a text without a fault, for all persons at once. */
    private static final class Evaluator {
        // Each has a place for every bracket that is open, and one for the outside.
        private final int[] metTerms = new int[MOST_BRACKETS + 1];
        private final int[] metFactors = new int[MOST_BRACKETS + 1];
        private final int[] turned = new int[MOST_BRACKETS + 1];
        private int depth;

        int whoMeets(Text text, People people, int[] members) {
            if (text.length == 0) {
                return 0;
            }
            depth = 0;
            beginExpression();
            for (int i = 0; i < text.length; i++) {
                readSign(text, i, people, members);
            }
            return metTerms[0] | metFactors[0];
        }

        /** The sign "&" and the signs inside a test need nothing: a test is read whole at its first sign. */
        private void readSign(Text text, int index, People people, int[] members) {
            switch (text.signAt(index)) {
                case '!':
                    turned[depth] ^= EVERYBODY;
                    break;
                case '(':
                    if (depth < MOST_BRACKETS) {
                        depth++;
                        beginExpression();
                    }
                    break;
                case ')':
                    if (depth > 0) {
                        depth--;
                        addFactor(metTerms[depth + 1] | metFactors[depth + 1]);
                    }
                    break;
                case '|':
                    metTerms[depth] |= metFactors[depth];
                    metFactors[depth] = EVERYBODY;
                    break;
                case '*':
                    addFactor(EVERYBODY);
                    break;
                case 'l':
                    addFactor(people.whoCompares(LAND, text.signAt(index + 1), text.numberAt(index + 2)));
                    break;
                case 'a':
                    addFactor(people.whoCompares(AGE, text.signAt(index + 1), text.numberAt(index + 2)));
                    break;
                case 'p':
                    addFactor(people.whoCompares(PLAN, text.signAt(index + 1), text.numberAt(index + 2)));
                    break;
                case 't':
                    addFactor(people.whoHasTag(text.digitAt(index + 1)));
                    break;
                case '@':
                    addFactor(whoIsIn(text.digitAt(index + 1), members));
                    break;
                default:
                    break;
            }
        }

        private void beginExpression() {
            metTerms[depth] = 0;
            metFactors[depth] = EVERYBODY;
            turned[depth] = 0;
        }

        private void addFactor(int whoMeets) {
            metFactors[depth] &= whoMeets ^ turned[depth];
            turned[depth] = 0;
        }

        private int whoIsIn(int audience, int[] members) {
            return audience >= 0 && audience < AUDIENCES ? members[audience] : 0;
        }
    }

    private static final class Audiences {
        private final Text[] drafts = new Text[AUDIENCES];
        private final Text[] ruleTexts = new Text[AUDIENCES];
        private final Graph references = new Graph(AUDIENCES);
        private final int[] members = new int[AUDIENCES];
        private final int[] membersIfSet = new int[AUDIENCES];
        private final Reader reader = new Reader();
        private final Evaluator evaluator = new Evaluator();

        Audiences() {
            for (int audience = 0; audience < AUDIENCES; audience++) {
                drafts[audience] = new Text();
                ruleTexts[audience] = new Text();
            }
        }

        int faultOf(int audience) {
            return reader.findFault(drafts[audience]);
        }

        boolean canBeSet(int audience) {
            return faultOf(audience) == NONE
                    && !references.wouldLoop(audience, drafts[audience].audiencesReferredTo());
        }

        /** Finds all members once more, as a person has changed. */
        void settle(People people) {
            for (int i = 0; i < AUDIENCES; i++) {
                int audience = references.order[i];
                members[audience] = evaluator.whoMeets(ruleTexts[audience], people, members);
            }
        }

        /**
         * Finds the members as they would be with the draft for a rule. What the draft refers to does not
         * refer to this audience, so its members stay, and this one can come first; among the others, the
         * order of now still puts each behind those to which it refers.
         */
        void tryDraft(int changed, People people) {
            membersIfSet[changed] = evaluator.whoMeets(drafts[changed], people, members);
            for (int i = 0; i < AUDIENCES; i++) {
                int audience = references.order[i];
                if (audience != changed) {
                    membersIfSet[audience] = evaluator.whoMeets(ruleTexts[audience], people, membersIfSet);
                }
            }
        }

        /** Makes what tryDraft found true. */
        void adoptDraft(int audience) {
            ruleTexts[audience].copy(drafts[audience]);
            references.point(audience, drafts[audience].audiencesReferredTo());
            System.arraycopy(membersIfSet, 0, members, 0, AUDIENCES);
        }
    }

    /** Which numbers point to which others, where none may point to itself, over others or not. */
    private static final class Graph {
        private final int[] targets;
        private final int[] order;

        Graph(int size) {
            targets = new int[size];
            order = new int[size];
            arrange();
        }

        boolean wouldLoop(int number, int newTargets) {
            int reached = newTargets;
            for (int round = 0; round < targets.length; round++) {
                for (int i = 0; i < targets.length; i++) {
                    reached |= hasBit(reached, i) ? targets[i] : 0;
                }
            }
            return hasBit(reached, number);
        }

        void point(int number, int newTargets) {
            targets[number] = newTargets;
            arrange();
        }

        /** Puts each number behind those to which it points; each round places one more at least. */
        private void arrange() {
            int placed = 0;
            for (int round = 0; round < targets.length; round++) {
                for (int i = 0; i < targets.length; i++) {
                    if (!hasBit(placed, i) && (targets[i] & ~placed) == 0) {
                        order[Integer.bitCount(placed)] = i;
                        placed = withBit(placed, i, true);
                    }
                }
            }
        }
    }

    private static final class Flag {
        private final int[] ruleAudiences = new int[MOST_RULES];
        private final int[] outcomes = new int[MOST_RULES];
        private int count;

        void insert(int place, int audience, int outcome) {
            if (place < 0 || place > count || count >= MOST_RULES) {
                return;
            }
            for (int i = count; i > place; i--) {
                ruleAudiences[i] = ruleAudiences[i - 1];
                outcomes[i] = outcomes[i - 1];
            }
            ruleAudiences[place] = audience;
            outcomes[place] = outcome;
            count++;
        }

        void delete(int place) {
            if (place < 0 || place >= count) {
                return;
            }
            for (int i = place; i < count - 1; i++) {
                ruleAudiences[i] = ruleAudiences[i + 1];
                outcomes[i] = outcomes[i + 1];
            }
            count--;
        }

        int outcomeOf(int place) {
            return place >= 0 && place < count ? outcomes[place] : NONE;
        }

        int trialOf(int place) {
            int outcome = outcomeOf(place);
            return outcome >= VARIANTS ? outcome - VARIANTS : NONE;
        }

        int decidingRule(int person, int[] members) {
            for (int place = 0; place < count; place++) {
                if (hasBit(members[ruleAudiences[place]], person)) {
                    return place;
                }
            }
            return NONE;
        }
    }

    private static final class Trial {
        private final int[] shares = new int[VARIANTS];
        private int salt;
        private int stoppedTo = NONE;
        private boolean held;

        void share(int first, int second, int third, int fourth) {
            shares[0] = first;
            shares[1] = second;
            shares[2] = third;
            shares[3] = fourth;
        }

        int sumOfShares() {
            int sum = 0;
            for (int share : shares) {
                sum += share;
            }
            return sum;
        }

        int armFor(int person, int keptArm) {
            if (stoppedTo != NONE) {
                return stoppedTo;
            }
            return keptArm != NONE ? keptArm : drawArm(person);
        }

        private int drawArm(int person) {
            int sum = sumOfShares();
            if (sum <= 0) {
                return 0;
            }
            int drawn = (7919 * person + 104729 * salt + 13) % 1000003 % sum;
            int variant = 0;
            int together = shares[0];
            while (together <= drawn && variant < VARIANTS - 1) {
                variant++;
                together += shares[variant];
            }
            return variant;
        }
    }

    /** An entry of the log; person is NONE where a whole trial is meant, and trial is NONE where none took part. */
    private static final class Entry {
        private final int kind;
        private final int person;
        private final int flag;
        private final int trial;
        private final int variant;

        Entry(int kind, int person, int flag, int trial, int variant) {
            this.kind = kind;
            this.person = person;
            this.flag = flag;
            this.trial = trial;
            this.variant = variant;
        }

        boolean concerns(int somebody) {
            return person == NONE || person == somebody;
        }
    }

    /**
     * What the log tells of one person. It changes by entries alone, so that the log can be read once more
     * and tells the same.
     */
    private static final class Past {
        private final int[] keptArms = new int[TRIALS];
        private final int[][] shownBy = new int[TRIALS][FLAGS];
        private final int[] shown = new int[FLAGS];
        private final int[] holders = new int[FLAGS];
        private final int[] frozen = new int[FLAGS];

        Past() {
            forget();
        }

        void forget() {
            for (int trial = 0; trial < TRIALS; trial++) {
                forgetTrial(trial);
            }
            Arrays.fill(shown, NONE);
            Arrays.fill(holders, 0);
            Arrays.fill(frozen, 0);
        }

        void take(Entry entry) {
            switch (entry.kind) {
                case SHOW:
                    noteShowing(entry);
                    break;
                case SHOW_AND_KEEP:
                    noteShowing(entry);
                    keptArms[entry.trial] = entry.variant;
                    break;
                case HOLD:
                    addHolder(ITSELF, entry.flag, entry.variant);
                    break;
                case RELEASE:
                    holders[entry.flag] = withBit(holders[entry.flag], ITSELF, false);
                    break;
                case HOLD_TRIAL:
                    holdWhatWasShownBy(entry.trial);
                    break;
                case RELEASE_TRIAL:
                    releaseAllOf(entry.trial);
                    break;
                default:
                    forgetTrial(entry.trial);
                    break;
            }
        }

        int countHeldBy(int trial) {
            int count = 0;
            for (int flag = 0; flag < FLAGS; flag++) {
                count += hasBit(holders[flag], trial) ? 1 : 0;
            }
            return count;
        }

        int countHeldOnlyBy(int trial) {
            int count = 0;
            for (int flag = 0; flag < FLAGS; flag++) {
                count += holders[flag] == 1 << trial ? 1 : 0;
            }
            return count;
        }

        private void noteShowing(Entry entry) {
            shown[entry.flag] = entry.variant;
            if (entry.trial != NONE) {
                shownBy[entry.trial][entry.flag] = entry.variant;
            }
        }

        private void addHolder(int holder, int flag, int variant) {
            if (holders[flag] == 0) {
                frozen[flag] = variant;
            }
            holders[flag] = withBit(holders[flag], holder, true);
        }

        private void holdWhatWasShownBy(int trial) {
            for (int flag = 0; flag < FLAGS; flag++) {
                if (shownBy[trial][flag] != NONE) {
                    addHolder(trial, flag, shownBy[trial][flag]);
                }
            }
        }

        private void releaseAllOf(int trial) {
            for (int flag = 0; flag < FLAGS; flag++) {
                holders[flag] = withBit(holders[flag], trial, false);
            }
        }

        private void forgetTrial(int trial) {
            keptArms[trial] = NONE;
            Arrays.fill(shownBy[trial], NONE);
        }
    }
}
