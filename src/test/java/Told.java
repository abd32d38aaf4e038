import java.util.ArrayList;
import java.util.List;
import java.util.Set;

/**
 * A house that is called by written calls, "addRule 0 0 0 4", so that what was done with it can be done once
 * more with another. By that, each refused call is checked against a house that was never asked for it.
 *
 * <p>This is no test: it is what the tests of the edges share.
 */
final class Told {
    static final String ARGUMENT = "IllegalArgumentException";
    static final String INDEX = "IndexOutOfBoundsException";
    static final String STATE = "IllegalStateException";
    static final int NONE = FlagChamber.NONE;

    /** The document promises nothing about an object after so many calls. */
    private static final int MOST_CALLS = 512;
    private static final Set<String> ASKING = Set.of("sign", "fault", "wouldMove", "isIn", "rules", "view",
            "viewByLog", "ruleFor", "reach", "arm", "kept", "isHeld", "entries", "shownLast");

    private static String sentence = "";
    private static int wrong;

    private final FlagChamber house = new FlagChamber();
    private final List<Call> done = new ArrayList<>();
    private int calls;

    // ---- the sentence of the document that is tested, and what was found

    static void sentence(String words) {
        sentence = words;
    }

    static void check(String what, Object want, Object got) {
        if (!want.equals(got)) {
            wrong++;
            System.out.println("\"" + sentence + "\": " + what + ": " + got + ", due is " + want);
        }
    }

    static void end() {
        if (wrong != 0) {
            System.out.println(wrong + " answers are not as due");
            System.exit(1);
        }
    }

    // ---- calls

    /** Makes calls that may not throw. */
    Told does(String... written) {
        for (String call : written) {
            String got = ask(call);
            check(call, false, got.startsWith("throws"));
        }
        return this;
    }

    /** The call answers this number, or true or false. */
    Told due(Object want, String written) {
        check(written, String.valueOf(want), ask(written));
        return this;
    }

    /** What the call answers; it may not throw. */
    int number(String written) {
        String answer = ask(written);
        check(written, false, answer.startsWith("throws"));
        return answer.startsWith("throws") ? 0 : Integer.parseInt(answer);
    }

    /** The call throws this exception, and changes nothing. */
    Told refused(String exception, String written) {
        check(written, "throws " + exception, ask(written));
        return changesNothing(written);
    }

    Told changesNothing(String written) {
        List<Call> probes = Probes.all();
        int room = MOST_CALLS - done.size() - 1;
        check("room for questions in a test", true, room >= Probes.LONGEST);
        int from = 0;
        while (room >= Probes.LONGEST && from < probes.size()) {
            int to = Probes.endOfSlice(from, room);
            if (!answersAlike(written, probes.subList(from, to))) {
                return this;
            }
            from = to;
        }
        return this;
    }

    private boolean answersAlike(String written, List<Call> probes) {
        FlagChamber asked = again();
        Call.of(written).answerOf(asked);
        FlagChamber unasked = again();
        for (Call probe : probes) {
            String want = probe.answerOf(unasked);
            String got = probe.answerOf(asked);
            if (!want.equals(got)) {
                check("after " + written + ", " + probe.written, want, got);
                return false;
            }
        }
        return true;
    }

    /** Each view by log is the view, at any time. */
    Told sameByLog() {
        for (int person = 0; person < 20; person++) {
            FlagChamber other = again();
            for (int flag = 0; flag < 8; flag++) {
                int view = other.view(person, flag);
                check("viewByLog " + person + " " + flag, view, other.viewByLog(person, flag));
                check("view " + person + " " + flag + " after it", view, other.view(person, flag));
            }
        }
        return this;
    }

    private FlagChamber again() {
        FlagChamber other = new FlagChamber();
        for (Call call : done) {
            call.answerOf(other);
        }
        return other;
    }

    private String ask(String written) {
        Call call = Call.of(written);
        String answer = call.answerOf(house);
        calls++;
        check("calls of a test", true, calls <= MOST_CALLS);
        if (!ASKING.contains(call.name) && !answer.startsWith("throws")) {
            done.add(call);
        }
        return answer;
    }

    // ---- what many tests do

    Told write(int audience, String text) {
        for (int i = 0; i < text.length(); i++) {
            does("type " + audience + " " + (int) text.charAt(i));
        }
        return this;
    }

    Told rewrite(int audience, String text) {
        return does("erase " + audience + " 60").write(audience, text);
    }

    Told define(int audience, String text) {
        return rewrite(audience, text).does("set " + audience);
    }

    /** Those who are in the audience, and nobody else. */
    Told in(int audience, Integer... persons) {
        List<Integer> found = new ArrayList<>();
        for (int person = 0; person < 20; person++) {
            if (ask("isIn " + audience + " " + person).equals("true")) {
                found.add(person);
            }
        }
        check("who is in " + audience, List.of(persons), found);
        return this;
    }

    /** A call in which # stands for a number, for each number from least to most. */
    Told dueForAll(Object want, String written, int least, int most) {
        for (int i = least; i <= most; i++) {
            due(want, written.replace("#", String.valueOf(i)));
        }
        return this;
    }

    Told doesForAll(String written, int least, int most) {
        for (int i = least; i <= most; i++) {
            does(written.replace("#", String.valueOf(i)));
        }
        return this;
    }

    /** Shows a flag without rules until the log has so many entries. */
    Told fillLog(int entries) {
        int missing = entries - number("entries");
        for (int i = 0; i < missing; i++) {
            does("show 19 7");
        }
        return this;
    }

    /** A house whose audience 0 has everybody. */
    static Told withAll() {
        return new Told().define(0, "*");
    }

    /** The same, where the flag 0 sends everybody to the trial 0, whose arms for 0, 1, 2, 3 are 1, 0, 3, 2. */
    static Told withTrial() {
        return withAll().does("addRule 0 0 0 4", "setShares 0 1 1 1 1");
    }

    /** A call of the face by its name, with its arguments; 0 and 1 stand for false and true. */
    static final class Call {
        private final String written;
        private final String name;
        private final int[] a = new int[5];

        private Call(String written) {
            this.written = written;
            String[] words = written.split(" ");
            name = words[0];
            for (int i = 1; i < words.length; i++) {
                a[i - 1] = Integer.parseInt(words[i]);
            }
        }

        static Call of(String written) {
            return new Call(written);
        }

        String answerOf(FlagChamber x) {
            try {
                return String.valueOf(answer(x));
            } catch (RuntimeException e) {
                return "throws " + e.getClass().getSimpleName();
            }
        }

        private Object answer(FlagChamber x) {
            switch (name) {
                case "setAttribute": return x.setAttribute(a[0], a[1], a[2]);
                case "setTag": return x.setTag(a[0], a[1], a[2] != 0);
                case "type": return x.type(a[0], a[1]);
                case "erase": return x.erase(a[0], a[1]);
                case "sign": return x.sign(a[0], a[1]);
                case "fault": return x.fault(a[0]);
                case "set": return x.set(a[0]);
                case "wouldMove": return x.wouldMove(a[0]);
                case "isIn": return x.isIn(a[0], a[1]);
                case "addRule": return x.addRule(a[0], a[1], a[2], a[3]);
                case "removeRule": return x.removeRule(a[0], a[1]);
                case "rules": return x.rules(a[0]);
                case "setNeed": return x.setNeed(a[0], a[1], a[2] != 0);
                case "view": return x.view(a[0], a[1]);
                case "viewByLog": return x.viewByLog(a[0], a[1]);
                case "ruleFor": return x.ruleFor(a[0], a[1]);
                case "reach": return x.reach(a[0], a[1]);
                case "show": return x.show(a[0], a[1]);
                default: return answerOfTrialsAndHolds(x);
            }
        }

        private Object answerOfTrialsAndHolds(FlagChamber x) {
            switch (name) {
                case "setShares": return x.setShares(a[0], a[1], a[2], a[3], a[4]);
                case "setSalt": return x.setSalt(a[0], a[1]);
                case "stop": return x.stop(a[0], a[1]);
                case "beginAnew": return x.beginAnew(a[0]);
                case "arm": return x.arm(a[0], a[1]);
                case "kept": return x.kept(a[0], a[1]);
                case "hold": return x.hold(a[0], a[1]);
                case "release": return x.release(a[0], a[1]);
                case "holdTrial": return x.holdTrial(a[0]);
                case "releaseTrial": return x.releaseTrial(a[0]);
                case "isHeld": return x.isHeld(a[0], a[1]);
                case "entries": return x.entries();
                case "shownLast": return x.shownLast(a[0], a[1]);
                default: throw new AssertionError("no such call: " + written);
            }
        }
    }

    /**
     * Questions that find what an object holds, in blocks: each block asks first what it can, and then makes
     * calls whose answers tell what cannot be asked for, as setShares tells the shares before.
     */
    private static final class Probes {
        static final int LONGEST = 64;
        private static final List<Call> ALL = new ArrayList<>();
        private static final List<Integer> ENDS = new ArrayList<>();

        private static List<Call> all() {
            if (ALL.isEmpty()) {
                addQuestions();
                addPersons();
                addAudiences();
                addFlags();
                addTrials();
                addHolds();
            }
            return ALL;
        }

        /** As many whole blocks as there is room for. */
        static int endOfSlice(int from, int room) {
            int end = from;
            for (int blockEnd : ENDS) {
                if (blockEnd > from && blockEnd - from <= room) {
                    end = blockEnd;
                }
            }
            return end;
        }

        private static void add(String written) {
            ALL.add(Call.of(written));
        }

        private static void endBlock() {
            ENDS.add(ALL.size());
        }

        private static void addQuestions() {
            add("entries");
            for (int person = 0; person < 20; person++) {
                for (String question : new String[] {"view", "viewByLog", "ruleFor", "isHeld", "shownLast"}) {
                    for (int flag = 0; flag < 8; flag++) {
                        add(question + " " + person + " " + flag);
                    }
                }
                endBlock();
                for (int number = 0; number < 6; number++) {
                    add("isIn " + number + " " + person);
                    add("arm " + number + " " + person);
                    add("kept " + number + " " + person);
                }
                endBlock();
            }
        }

        private static void addPersons() {
            for (int person = 0; person < 20; person++) {
                for (int attribute = 0; attribute < 3; attribute++) {
                    add("setAttribute " + person + " " + attribute + " 1");
                }
                for (int tag = 0; tag < 8; tag++) {
                    add("setTag " + person + " " + tag + " 1");
                }
                endBlock();
            }
        }

        private static void addAudiences() {
            for (int audience = 0; audience < 6; audience++) {
                for (int index = 0; index < 60; index++) {
                    add("sign " + audience + " " + index);
                }
                endBlock();
                add("fault " + audience);
                add("wouldMove " + audience);
                add("set " + audience);
                add("type " + audience + " 42");
                add("erase " + audience + " 1");
                endBlock();
            }
        }

        private static void addFlags() {
            for (int flag = 0; flag < 8; flag++) {
                for (int other = 0; other < 8; other++) {
                    add("setNeed " + flag + " " + other + " 0");
                }
                add("rules " + flag);
                for (int i = 0; i < 6; i++) {
                    add("removeRule " + flag + " 0");
                }
                endBlock();
            }
        }

        private static void addTrials() {
            for (int trial = 0; trial < 6; trial++) {
                // First the salt, which tells whether the trial is held: a refused releaseTrial could change that.
                add("setSalt " + trial + " 5");
                add("releaseTrial " + trial);
                add("stop " + trial + " 1");
                add("beginAnew " + trial);
                for (int person = 0; person < 20; person++) {
                    add("arm " + trial + " " + person);
                }
                add("setSalt " + trial + " 77");
                for (int person = 0; person < 20; person++) {
                    add("arm " + trial + " " + person);
                }
                add("setShares " + trial + " 0 0 0 0");
                endBlock();
            }
        }

        private static void addHolds() {
            for (int trial = 0; trial < 6; trial++) {
                add("holdTrial " + trial);
                for (int flag = 0; flag < 8; flag++) {
                    for (int variant = 0; variant < 4; variant++) {
                        add("reach " + flag + " " + variant);
                    }
                }
                add("releaseTrial " + trial);
                endBlock();
            }
            for (int person = 0; person < 20; person++) {
                for (int flag = 0; flag < 8; flag++) {
                    add("release " + person + " " + flag);
                    add("show " + person + " " + flag);
                    add("hold " + person + " " + flag);
                }
                endBlock();
            }
        }
    }
}
