import java.util.ArrayList;
import java.util.List;

/**
 * The range of each argument of each call: its least and its most are taken, what lies beyond is refused by
 * the exception that the document names, and a refused call changes nothing. Then: of several exceptions the
 * one that the document lists first.
 */
public final class RangesTest {
    /** An argument with ".." is tried at the ends of its range, one with "i" at its end is an index or a place. */
    private static final String[] CALLS = {
        "setAttribute 0..19 0 0..9", "setAttribute 0..19 1 0..99", "setAttribute 0..19 2 0..3",
        "setAttribute 4 0..2 3",
        "setTag 0..19 0..7 1", "setTag 0..19 0..7 0",
        "type 0..5 33..126",
        "erase 0..5 1..2147483647",
        "sign 0..5 0..2i",
        "fault 0..5", "set 0..5", "wouldMove 0..5",
        "isIn 0..5 0..19",
        "addRule 0..7 0..3i 0..5 0..9",
        "removeRule 0..7 0..2i",
        "rules 0..7",
        "setNeed 0..7 3 1", "setNeed 3 0..7 0", "setNeed 0..7 3 0",
        "view 0..19 0..7", "viewByLog 0..19 0..7", "ruleFor 0..19 0..7",
        "reach 0..7 0..3",
        "show 0..19 0..7",
        "setShares 0..5 0..100 0..100 0..100 0..100",
        "setSalt 0..5 0..1000",
        "stop 0..5 0..3",
        "beginAnew 0..5",
        "arm 0..5 0..19", "kept 0..5 0..19",
        "hold 0..19 0..7",
        "holdTrial 0..5",
        "isHeld 0..19 0..7", "shownLast 0..19 0..7",
    };

    /** The same for calls that want the view 0 or the last one held, and the trial 0 or the last one. */
    private static final String[] CALLS_OF_HELD = {"release 0..19 0..7", "releaseTrial 0..5"};

    /** Calls to which several exceptions apply, and the one that comes first. */
    private static final String[][] SEVERAL = {
        {"sign 6 3", Told.ARGUMENT}, {"sign -1 -1", Told.ARGUMENT},
        {"addRule 8 9 0 0", Told.ARGUMENT}, {"addRule 0 -1 6 0", Told.ARGUMENT}, {"addRule 0 6 0 10", Told.ARGUMENT},
        {"addRule 1 2 6 0", Told.ARGUMENT}, {"addRule 1 2 0 10", Told.ARGUMENT}, {"addRule 1 -1 0 0", Told.INDEX},
        {"addRule 1 6 0 0", Told.INDEX}, {"addRule 1 6 -1 10", Told.ARGUMENT}, {"addRule 1 5 0 0", Told.STATE},
        {"removeRule 8 9", Told.ARGUMENT}, {"removeRule -1 -1", Told.ARGUMENT},
        {"setNeed 2 2 1", Told.ARGUMENT}, {"setNeed 8 8 1", Told.ARGUMENT},
        {"type 4 32", Told.ARGUMENT}, {"type 4 127", Told.ARGUMENT}, {"type 4 33", Told.STATE},
        {"setShares 1 101 0 0 0", Told.ARGUMENT}, {"setShares 1 0 0 0 -1", Told.ARGUMENT},
        {"setShares 1 0 0 0 0", Told.STATE}, {"setSalt 1 1001", Told.ARGUMENT}, {"setSalt 1 -1", Told.ARGUMENT},
        {"setSalt 1 0", Told.STATE}, {"stop 1 4", Told.ARGUMENT}, {"stop 1 -1", Told.ARGUMENT},
        {"stop 1 0", Told.STATE}, {"hold 2 8", Told.ARGUMENT}, {"hold 20 1", Told.ARGUMENT}, {"hold 2 1", Told.STATE},
        {"release 3 8", Told.ARGUMENT}, {"release -1 1", Told.ARGUMENT}, {"release 3 1", Told.STATE},
    };

    /** The same when the log is full. */
    private static final String[] FIRST_THE_ARGUMENT = {
        "show 20 0", "show 0 8", "hold 20 0", "hold 0 8", "release 20 0", "release 0 8", "holdTrial 6",
        "releaseTrial 6", "beginAnew 6",
    };

    /**
     * A house in which each of the calls at the ends of its ranges may be made: each draft has three signs,
     * each flag three rules, no trial is held; and much in it that a refused call could change.
     */
    private static Told house() {
        Told x = new Told();
        x.does("setAttribute 0 0 9", "setAttribute 1 1 50", "setAttribute 19 2 3", "setTag 0 0 1", "setTag 19 7 1");
        x.define(0, "!@1").define(1, "l=9").define(2, "!@0").define(3, "!t7").define(4, "!!*").rewrite(5, "(*)");
        for (int flag = 0; flag < 8; flag++) {
            x.does("addRule " + flag + " 0 4 " + (flag + 2), "addRule " + flag + " 0 3 " + (9 - flag),
                    "addRule " + flag + " 0 2 1");
        }
        x.does("setNeed 3 1 1", "setNeed 5 4 1");
        for (int trial = 0; trial < 6; trial++) {
            x.does("setShares " + trial + " 10 20 30 4" + trial, "setSalt " + trial + " 10" + trial);
        }
        x.does("stop 2 3", "show 0 3", "show 1 3", "show 19 4", "show 5 5", "show 5 6", "show 7 6", "stop 3 2");
        return x.does("show 8 2", "show 9 1", "hold 4 4", "hold 5 4", "release 5 4", "show 5 4");
    }

    private static Told houseOfHeld() {
        Told x = house().does("hold 0 0", "hold 0 7", "hold 19 0", "hold 19 7");
        return x.does("holdTrial 0", "holdTrial 5");
    }

    // ---- the calls at the ends of their ranges

    private interface House {
        Told build();
    }

    private static void checkRanges(String template, House house) {
        Told.sentence("range: " + template);
        String[] words = template.split(" ");
        checkTaken(words, house);
        for (int i = 1; i < words.length; i++) {
            if (words[i].contains("..")) {
                checkRefused(words, i, house);
            }
        }
    }

    /** Each argument at its least and at its most, the others at their least and at their most. */
    private static void checkTaken(String[] words, House house) {
        for (int i = 1; i < words.length; i++) {
            for (boolean othersAtMost : new boolean[] {false, true}) {
                for (boolean atMost : new boolean[] {false, true}) {
                    house.build().does(written(words, othersAtMost, i, atMost ? most(words[i]) : least(words[i])));
                }
            }
        }
    }

    private static void checkRefused(String[] words, int place, House house) {
        String exception = words[place].endsWith("i") ? Told.INDEX : Told.ARGUMENT;
        long below = (long) least(words[place]) - 1;
        long above = (long) most(words[place]) + 1;
        for (long bad : new long[] {Integer.MIN_VALUE, below, above, Integer.MAX_VALUE}) {
            if (bad <= below || bad >= above && bad <= Integer.MAX_VALUE) {
                house.build().refused(exception, written(words, false, place, (int) bad));
                house.build().refused(exception, written(words, true, place, (int) bad));
            }
        }
    }

    private static int least(String word) {
        return Integer.parseInt(word.split("\\.\\.")[0]);
    }

    private static int most(String word) {
        String[] ends = word.replace("i", "").split("\\.\\.");
        return Integer.parseInt(ends[ends.length - 1]);
    }

    private static String written(String[] words, boolean othersAtMost, int place, int argument) {
        List<String> call = new ArrayList<>();
        for (int i = 0; i < words.length; i++) {
            call.add(i == 0 ? words[0] : String.valueOf(i == place ? argument
                    : othersAtMost ? most(words[i]) : least(words[i])));
        }
        return String.join(" ", call);
    }

    // ---- several exceptions, and calls that ask

    private static void checkOrder() {
        Told.sentence("if several apply, the one that it lists first is thrown");
        Told x = Told.withTrial().doesForAll("addRule 1 0 0 #", 4, 8).doesForAll("type 4 #", 33, 92);
        x.does("setNeed 3 2 1", "hold 2 1", "holdTrial 1", "show 4 0");
        for (String[] call : SEVERAL) {
            x.refused(call[1], call[0]);
        }
        Told full = Told.withTrial().does("hold 0 0").fillLog(400);
        for (String call : FIRST_THE_ARGUMENT) {
            full.refused(Told.ARGUMENT, call);
        }
        Told both = Told.withTrial().does("hold 2 1", "holdTrial 1").fillLog(400);
        for (String call : new String[] {"hold 2 1", "release 2 2", "holdTrial 1", "releaseTrial 2", "beginAnew 1"}) {
            both.refused(Told.STATE, call);
        }
    }

    private static void checkQuestions() {
        Told.sentence("a call that asks changes nothing");
        String[] questions = {"sign 0 2", "fault 0", "fault 5", "wouldMove 0", "wouldMove 5", "isIn 0 0", "rules 7",
            "view 0 3", "viewByLog 0 3", "viewByLog 5 4", "ruleFor 0 3", "reach 3 1", "arm 0 0", "arm 2 5", "kept 0 0",
            "isHeld 4 4", "entries", "shownLast 0 3"};
        for (String question : questions) {
            house().changesNothing(question);
        }
    }

    public static void main(String[] args) {
        for (String template : CALLS) {
            checkRanges(template, RangesTest::house);
        }
        for (String template : CALLS_OF_HELD) {
            checkRanges(template, RangesTest::houseOfHeld);
        }
        checkOrder();
        checkQuestions();
        Told.end();
    }
}
