import java.util.ArrayList;
import java.util.Arrays;
import java.util.List;
import java.util.function.IntPredicate;

/**
 * The sentences of the document that name no edge, from its first line on: a test a sentence. What stays is
 * asked for after each of many calls that do not change it.
 */
public final class SentencesTest {
    // ---- each person, audience, flag and trial is one of its own

    private static void persons() {
        Told.sentence("There are the persons 0 to 19");
        for (int person = 0; person < 20; person++) {
            Told x = new Told();
            for (int other = 0; other < 20; other++) {
                x.does("setAttribute " + other + " 1 " + (10 + other), "setTag " + other + " " + other % 8 + " 1");
            }
            x.define(3, "a=" + (10 + person)).in(3, person);
            int tag = person % 8;
            x.define(4, "t" + person % 8).in(4, those(other -> other % 8 == tag));
            x.does("addRule 6 0 3 2").due(1, "reach 6 2").due(19, "reach 6 0").due(2, "show " + person + " 6");
            x.due(2, "hold " + person + " 6").does("removeRule 6 0").due(1, "reach 6 2")
                    .due(2, "view " + person + " 6");
            for (int other = 0; other < 20; other++) {
                x.due(other == person, "isHeld " + other + " 6");
                x.due(other == person ? 2 : Told.NONE, "shownLast " + other + " 6");
            }
        }
    }

    private static Integer[] those(IntPredicate meets) {
        List<Integer> persons = new ArrayList<>();
        for (int person = 0; person < 20; person++) {
            if (meets.test(person)) {
                persons.add(person);
            }
        }
        return persons.toArray(new Integer[0]);
    }

    private static void audiences() {
        Told.sentence("the audiences 0 to 5: each audience has a draft, and a rule");
        Told x = new Told().does("setTag 19 7 1");
        for (int audience = 0; audience < 6; audience++) {
            x.does("setTag " + audience + " " + audience + " 1").write(audience, "t" + audience + "|t7");
        }
        for (int audience = 5; audience >= 0; audience--) {
            x.in(audience).due(2, "set " + audience).in(audience, audience, 19);
        }
        for (int audience = 0; audience < 6; audience++) {
            x.due('0' + audience, "sign " + audience + " 1").due(2, "erase " + audience + " 3");
            x.due(1, "set " + audience).due(false, "isIn " + audience + " 19");
            x.due(true, "isIn " + audience + " " + audience);
        }
    }

    private static void flags() {
        Told.sentence("the flags 0 to 7: a flag has rules, with an audience and an outcome");
        Told x = Told.withAll();
        for (int flag = 0; flag < 8; flag++) {
            for (int rule = 0; rule <= flag % 5; rule++) {
                x.due(rule + 1, "addRule " + flag + " " + rule + " 0 " + (flag + 1) % 4);
            }
        }
        for (int flag = 0; flag < 8; flag++) {
            x.due(flag % 5 + 1, "rules " + flag).due((flag + 1) % 4, "view 7 " + flag).due(0, "ruleFor 7 " + flag);
        }
        for (int flag = 0; flag < 8; flag++) {
            x.due((flag + 1) % 4, "removeRule " + flag + " 0").due(flag % 5, "rules " + flag);
        }
        x.due(0, "rules 0").due(1, "rules 1").due(4, "rules 4").due(1, "rules 6").due(2, "rules 7");
    }

    private static void trials() {
        Told.sentence("the trials 0 to 5: a trial has a share of each variant, and a salt");
        Told x = Told.withAll();
        for (int trial = 0; trial < 6; trial++) {
            int[] shares = new int[4];
            shares[(trial + 1) % 4] = 10 + trial;
            x.does("setShares " + trial + " " + shares[0] + " " + shares[1] + " " + shares[2] + " " + shares[3]);
            x.does("setSalt " + trial + " " + 100 * trial, "addRule " + trial + " 0 0 " + (4 + trial));
            x.due((trial + 1) % 4, "show " + (10 + trial) + " " + trial);
        }
        for (int trial = 0; trial < 6; trial++) {
            for (int person = 0; person < 20; person++) {
                x.due((trial + 1) % 4, "arm " + trial + " " + person);
                x.due(person == 10 + trial ? (trial + 1) % 4 : Told.NONE, "kept " + trial + " " + person);
            }
            x.due(1, "holdTrial " + trial).due(true, "isHeld " + (10 + trial) + " " + trial);
        }
        for (int trial = 0; trial < 6; trial++) {
            x.due(1, "releaseTrial " + trial).due(10 + trial, "setShares " + trial + " 0 0 0 0");
            x.due(100 * trial, "setSalt " + trial + " 0").due(1, "beginAnew " + trial);
        }
    }

    // ---- drafts and rules of audiences

    private static void typing() {
        Told.sentence("Types a sign behind the others of a draft. Returns the length of the draft then.");
        Told x = new Told().due(1, "type 2 40").due(2, "type 2 42").due(3, "type 2 41").due(1, "type 3 33");
        Told.sentence("Returns a sign of a draft. index: 0 for the first one");
        x.due(40, "sign 2 0").due(42, "sign 2 1").due(41, "sign 2 2").due(33, "sign 3 0").due(20, "set 2");
        Told.sentence("Returns a sign of a draft, not of the rule");
        x.due(1, "erase 2 2").due(2, "type 2 76").due(3, "type 2 77").due(4, "type 2 33").due(40, "sign 2 0");
        x.due(76, "sign 2 1").due(77, "sign 2 2").due(33, "sign 2 3").refused(Told.INDEX, "sign 2 4");
        Told.sentence("Takes the last signs of a draft away. Returns the length of the draft then.");
        x.due(2, "erase 2 2").due(40, "sign 2 0").due(76, "sign 2 1").refused(Told.INDEX, "sign 2 2");
        x.due(1, "erase 2 1").due(40, "sign 2 0").due(0, "erase 2 1").due(33, "sign 3 0").due(true, "isIn 2 7");
    }

    private static void faults() {
        Told.sentence("Returns the fault of a draft; NONE if there is none.");
        Told x = new Told().write(1, "t1&").due(3, "fault 1").does("type 1 42").due(Told.NONE, "fault 1").does("set 1");
        x.does("type 1 42").due(4, "fault 1").does("type 1 124").due(4, "fault 1").due(0, "fault 0");
        x.rewrite(1, "*|").due(2, "fault 1").does("type 1 33").due(3, "fault 1").write(1, "p>33")
                .due(Told.NONE, "fault 1");
    }

    private static void settingRules() {
        Told.sentence("Sets the rule of an audience by its draft, which stays.");
        String text = "!(l=1&!(p<3|t4))|a>12";
        Told x = new Told().write(4, text).write(5, "*").due(20, "set 4").due(Told.NONE, "fault 4");
        for (int i = 0; i < text.length(); i++) {
            x.due((int) text.charAt(i), "sign 4 " + i);
        }
        x.refused(Told.INDEX, "sign 4 " + text.length()).in(5).does("setAttribute 3 0 1", "setAttribute 3 2 3");
        x.in(4, those(person -> person != 3)).due(0, "set 4").does("setTag 3 4 1").due(true, "isIn 4 3");
        x.does("setTag 3 4 0", "setAttribute 3 1 13").due(true, "isIn 4 3").due(20, "set 5");
    }

    private static int land(int person) {
        return person % 10;
    }

    private static int age(int person) {
        return person * 5;
    }

    private static int plan(int person) {
        return person * 3 % 4;
    }

    private static boolean tag(int person, int tag) {
        return ((person * 37 + 11) >> tag & 1) != 0;
    }

    /** Persons of all kinds; the audience 0 has those whose land is below 5, the audience 1 those with the tag 3. */
    private static void metBy(String text, IntPredicate meets) {
        Told x = new Told().define(0, "l<5").define(1, "t3");
        for (int person = 0; person < 20; person++) {
            x.does("setAttribute " + person + " 0 " + land(person), "setAttribute " + person + " 1 " + age(person));
            x.does("setAttribute " + person + " 2 " + plan(person));
            for (int tag = 0; tag < 8; tag++) {
                x.does("setTag " + person + " " + tag + (tag(person, tag) ? " 1" : " 0"));
            }
        }
        Integer[] due = those(meets);
        Told.check("a text that tells persons apart, " + text, true, due.length > 0 && due.length < 20);
        x.write(5, text).due(due.length, "set 5").in(5, due);
        x.rewrite(5, "!(" + text + ")").due(20, "set 5").due(false, "isIn 5 " + due[0]);
    }

    private static void expressions() {
        Told.sentence("A text is an expression");
        metBy("l<3|a>50&!t2", p -> land(p) < 3 || age(p) > 50 && !tag(p, 2));
        metBy("!(l<3|a>50)&(@0|p=2)", p -> !(land(p) < 3 || age(p) > 50) && (land(p) < 5 || plan(p) == 2));
        metBy("!l=4&!(p=1&t0|p=3&t1)|a=5&@1",
                p -> land(p) != 4 && !(plan(p) == 1 && tag(p, 0) || plan(p) == 3 && tag(p, 1))
                        || age(p) == 5 && tag(p, 3));
        metBy("t0&t1|t2&t3|t4&t5|t6&t7",
                p -> tag(p, 0) && tag(p, 1) || tag(p, 2) && tag(p, 3) || tag(p, 4) && tag(p, 5)
                        || tag(p, 6) && tag(p, 7));
        metBy("(t0|t1)&(t2|t3)&(t4|t5)&(t6|t7)", p -> (tag(p, 0) || tag(p, 1)) && (tag(p, 2) || tag(p, 3))
                && (tag(p, 4) || tag(p, 5)) && (tag(p, 6) || tag(p, 7)));
        metBy("!!(a<30)&!!!(l>6)|!(@2|!@0)&p>0",
                p -> age(p) < 30 && land(p) <= 6 || land(p) < 5 && plan(p) > 0);
        metBy("((l=1|l=3)&(p<2|t5))|(!(a>20)&@1)",
                p -> (land(p) == 1 || land(p) == 3) && (plan(p) < 2 || tag(p, 5)) || age(p) <= 20 && tag(p, 3));
        metBy("a>09&a<16|a=95|l=00", p -> age(p) > 9 && age(p) < 16 || age(p) == 95 || land(p) == 0);
        metBy("!(!(t1&@0)&!(p<3&l>8))", p -> tag(p, 1) && land(p) < 5 || plan(p) < 3 && land(p) > 8);
        metBy("!t6|(t1&(t2|(t3&(t4|(t5&(!t0))))))", p -> !tag(p, 6)
                || tag(p, 1) && (tag(p, 2) || tag(p, 3) && (tag(p, 4) || tag(p, 5) && !tag(p, 0))));
        metBy("@0&!@1|@1&!@0", p -> land(p) < 5 != tag(p, 3));
    }

    // ---- flags

    private static void countsOfRules() {
        Told.sentence("Adds a rule to a flag. Returns how many rules it has then.");
        Told x = Told.withAll().due(1, "addRule 2 0 0 1").due(2, "addRule 2 0 1 2").due(3, "addRule 2 1 0 3");
        x.due(1, "addRule 3 0 0 3").due(4, "addRule 2 3 0 3");
        Told.sentence("Returns the number of rules of a flag.");
        x.due(4, "rules 2").due(1, "rules 3").due(0, "rules 4").due(0, "rules 5").due(0, "rules 1");
        Told.sentence("Removes a rule of a flag. Returns its outcome.");
        x.due(3, "removeRule 2 1").due(3, "rules 2").due(3, "removeRule 2 2").due(2, "removeRule 2 0")
                .due(1, "rules 2");
        x.due(1, "removeRule 2 0").due(0, "rules 2").due(1, "rules 3");
        Told.sentence("the rule of a flag that decides for a person; NONE if none does");
        Told none = Told.withAll().doesForAll("addRule 0 0 5 #", 5, 9).dueForAll(Told.NONE, "ruleFor # 0", 0, 19);
        none.due(20, "reach 0 0").does("removeRule 0 4").due(Told.NONE, "ruleFor 3 0");
    }

    private static void needs() {
        Told.sentence("Lets a flag need another one, or not any more. Returns whether it did.");
        Told x = Told.withAll().doesForAll("addRule # 0 0 1", 0, 7);
        for (int other = 0; other < 7; other++) {
            x.due(false, "setNeed 7 " + other + " 1").due(true, "setNeed 7 " + other + " 1");
        }
        Told.sentence("It can need other flags");
        for (int other = 0; other < 7; other++) {
            x.due(20, "reach 7 1").does("removeRule " + other + " 0").due(20, "reach 7 0").due(0, "view 3 7");
            x.does("hold 3 7", "addRule " + other + " 0 0 1").due(19, "reach 7 1").due(1, "release 3 7");
        }
        for (int other = 6; other >= 0; other--) {
            x.due(true, "setNeed 7 " + other + " 0").due(false, "setNeed 7 " + other + " 0");
            x.does("removeRule " + other + " 0").due(20, "reach 7 1");
        }
    }

    private static void variantsAndArms() {
        Told.sentence("its variant, or the arm of its trial for the person");
        for (int trial = 0; trial < 6; trial++) {
            Told x = Told.withAll().does("addRule 3 0 0 " + (4 + trial), "setShares " + trial + " 9 8 7 6");
            x.does("setSalt " + trial + " " + 123 * trial, "addRule 4 0 0 " + trial % 4);
            for (int person = 0; person < 20; person++) {
                x.due(x.number("arm " + trial + " " + person), "view " + person + " 3")
                        .due(trial % 4, "view " + person + " 4");
            }
            x.does("show 6 3", "setShares " + trial + " 0 0 0 0");
            x.due(x.number("kept " + trial + " 6"), "view 6 3").does("stop " + trial + " 2").due(20, "reach 3 2");
        }
        Told.sentence("Returns how many persons have a variant as their view of a flag: they sum to all");
        Told y = Told.withTrial();
        for (int salt = 0; salt < 9; salt++) {
            y.does("setSalt 0 " + salt, "show " + 2 * salt + " 0");
            int sum = y.number("reach 0 0") + y.number("reach 0 1") + y.number("reach 0 2") + y.number("reach 0 3");
            Told.check("the sum", 20, sum);
        }
        Told.sentence("as their view: not what was shown to them last");
        Told z = Told.withAll().does("addRule 0 0 0 3", "show 4 0", "removeRule 0 0").due(20, "reach 0 0")
                .due(0, "reach 0 3");
        z.does("addRule 0 0 0 2").due(20, "reach 0 2").due(3, "shownLast 4 0");
    }

    /** Flags of all kinds: by trials that are and are not stopped, by variants, with needs, and some are held. */
    private static Told flagsOfAllKinds() {
        Told x = Told.withTrial().does("setTag 1 0 1", "setTag 4 0 1", "setTag 13 0 1", "setTag 19 0 1")
                .define(1, "t0");
        x.does("addRule 1 0 0 5", "setShares 1 1 0 2 4", "stop 1 2", "addRule 2 0 0 4", "addRule 2 0 1 3");
        x.does("addRule 3 0 0 6", "setShares 2 0 5 5 0", "setNeed 3 0 1", "addRule 5 0 1 8", "addRule 5 0 0 0");
        x.does("setShares 3 0 1 1 1", "addRule 6 0 0 7", "hold 4 6", "hold 5 6", "hold 13 6", "setShares 3 3 0 0 1");
        return x.does("addRule 7 0 0 6", "setNeed 7 6 1", "setNeed 7 2 1");
    }

    private static void showings() {
        Told.sentence("When a flag is shown to a person, the variant that is shown is the view.");
        for (int first = 0; first < 20; first += 10) {
            Told x = flagsOfAllKinds();
            int entries = x.number("entries");
            for (int person = first; person < first + 10; person++) {
                for (int flag = 0; flag < 8; flag++) {
                    String seen = " " + person + " " + flag;
                    int view = x.number("view" + seen);
                    x.due(view, "show" + seen).due(view, "shownLast" + seen).due(view, "view" + seen);
                }
            }
            x.due(entries + 80, "entries").sameByLog();
        }
        Told.sentence("Each showing is an entry, also when nothing else comes of it");
        Told same = Told.withTrial();
        for (int round = 0; round < 10; round++) {
            same.due(3, "show 2 0").due(3 * round + 1, "entries").due(0, "show 2 1").due(3 * round + 2, "entries");
            same.due(0, "show 19 7").due(3 * round + 3, "entries");
        }
    }

    private static void movers() {
        Told.sentence("how many persons would have another view of some flag, if the rule were set by its draft now");
        String[] drafts = {"*", "!*", "t0", "!t0", "a=0&t0", "l=0&!t0|a=7"};
        int[][] due = {{0, 20, 16, 4, 16, 4}, {15, 4, 0, 19, 0, 19}};
        for (int audience = 0; audience < 2; audience++) {
            for (int i = 0; i < drafts.length; i++) {
                Told x = flagsOfAllKinds().does("show 3 0", "show 2 0", "show 1 0", "show 1 2", "setShares 0 0 1 0 0");
                x.does("hold 3 6", "show 9 3", "holdTrial 2", "hold 9 0").rewrite(audience, drafts[i]);
                int[] before = views(x);
                int moved = x.number("wouldMove " + audience);
                Told.check("wouldMove of " + audience + " by " + drafts[i], due[audience][i], moved);
                x.does("set " + audience);
                Told.check("who has moved by it", moved, personsWhoDiffer(before, views(x)));
            }
        }
    }

    private static int[] views(Told x) {
        int[] views = new int[160];
        for (int i = 0; i < 160; i++) {
            views[i] = x.number("view " + i / 8 + " " + i % 8);
        }
        return views;
    }

    private static int personsWhoDiffer(int[] some, int[] others) {
        return those(person -> !Arrays.equals(Arrays.copyOfRange(some, 8 * person, 8 * person + 8),
                Arrays.copyOfRange(others, 8 * person, 8 * person + 8))).length;
    }

    // ---- trials

    private static void sharesAndSalts() {
        Told.sentence("first: of the variant 0, second: of the variant 1, third: ... 2, fourth: ... 3");
        Told x = new Told().does("setShares 2 7 0 0 0").dueForAll(0, "arm 2 #", 0, 19);
        x.does("setShares 2 0 7 0 0").dueForAll(1, "arm 2 #", 0, 19).does("setShares 2 0 0 7 0")
                .dueForAll(2, "arm 2 #", 0, 19);
        x.does("setShares 2 0 0 0 7").dueForAll(3, "arm 2 #", 0, 19);
        Told.sentence("Returns the sum of the shares before. / Returns the salt before.");
        x.due(7, "setShares 2 1 20 30 4").due(55, "setShares 2 90 90 90 90").due(360, "setShares 2 5 5 5 5");
        x.due(0, "setSalt 2 17").due(17, "setSalt 2 17").due(17, "setSalt 2 4").due(4, "setSalt 2 0")
                .due(20, "setShares 2 0 0 0 0");
    }

    private static void beginnings() {
        Told.sentence("To begin a trial anew is to let it be stopped no more, and keep none; what is held stays held");
        Told x = Told.withTrial().does("show 2 0", "hold 2 0", "show 3 0", "hold 3 0", "setShares 0 0 1 0 0");
        x.does("beginAnew 0").due(3, "view 2 0").due(true, "isHeld 2 0").due(2, "view 3 0").due(3, "viewByLog 2 0");
        x.due(1, "release 2 0").due(1, "show 2 0").due(1, "holdTrial 0").due(true, "isHeld 2 0").sameByLog();
        Told.sentence("Its arm for a person, also while it is held");
        Told held = Told.withTrial().does("show 2 0", "holdTrial 0").due(1, "arm 0 0").due(0, "arm 0 1")
                .due(3, "arm 0 2");
        held.due(2, "arm 0 3").due(1, "view 0 0").due(1, "show 0 0").due(1, "kept 0 0").due(1, "arm 0 0");
    }

    // ---- holds and the log

    private static void manyHolders() {
        Told.sentence("A view can be held by itself, and by trials.");
        Told x = Told.withAll();
        for (int trial = 0; trial < 6; trial++) {
            x.does("addRule 1 0 0 " + (4 + trial), "setShares " + trial + " 0 0 1 1", "show 8 1", "removeRule 1 0");
        }
        x.does("addRule 1 0 0 1").due(1, "hold 8 1");
        for (int trial = 0; trial < 6; trial++) {
            x.due(1, "holdTrial " + trial).due(1, "view 8 1");
        }
        x.does("removeRule 1 0").due(1, "release 8 1").due(true, "isHeld 8 1");
        for (int trial = 5; trial > 0; trial--) {
            x.due(0, "releaseTrial " + trial).due(true, "isHeld 8 1").due(1, "view 8 1").due(1, "viewByLog 8 1");
        }
        x.due(1, "releaseTrial 0").due(false, "isHeld 8 1").due(0, "view 8 1").due(20, "entries");
    }

    private static void lastEntry() {
        Told.sentence("with what trials keep and what is held found from the log, up to its 400th entry");
        String otherArm = "setShares 0 0 1 0 0";
        Told.withTrial().fillLog(399).does("show 2 0", otherArm).due(3, "viewByLog 2 0");
        Told.withTrial().fillLog(399).does("hold 2 0", otherArm).due(3, "viewByLog 2 0");
        Told.withTrial().does("hold 2 0").fillLog(399).does("release 2 0", otherArm).due(1, "viewByLog 2 0");
        Told trial = Told.withTrial().does("show 2 0").fillLog(399).does("holdTrial 0", "addRule 0 0 0 1");
        trial.due(3, "viewByLog 2 0").due(1, "viewByLog 1 0");
        Told released = Told.withTrial().does("show 2 0", "holdTrial 0").fillLog(399).does("releaseTrial 0");
        released.does("addRule 0 0 0 1").due(1, "viewByLog 2 0");
        Told.withTrial().does("show 2 0", otherArm).fillLog(399).does("beginAnew 0").due(1, "viewByLog 2 0");
    }

    // ---- what stays

    /** Calls that have to do with the person 5, the audience 4, the flags 5 and 6 and the trial 3 alone. */
    private static final String[] ELSEWHERE = {
        "setAttribute 5 0 1", "setAttribute 5 1 2", "setAttribute 5 2 3", "setTag 5 6 1", "setTag 5 6 0",
        "type 4 116", "type 4 54", "wouldMove 4", "set 4", "type 4 124", "erase 4 1", "erase 4 60",
        "addRule 5 0 4 1", "addRule 5 0 0 7", "setNeed 5 6 1", "setNeed 5 6 0", "setShares 3 1 2 3 4",
        "setSalt 3 77", "show 5 5", "stop 3 1", "show 5 5", "beginAnew 3", "show 5 5", "show 5 6",
        "holdTrial 3", "hold 5 5", "reach 5 1", "releaseTrial 3", "removeRule 5 0", "viewByLog 5 5",
        "release 5 5", "removeRule 5 0",
    };

    /** Questions about the person 2, the flag 0, the trial 0 and the audience 0, and calls that move no view. */
    private static final String[] NEARBY = {
        "sign 0 0", "fault 0", "fault 1", "wouldMove 0", "isIn 0 2", "isIn 1 2", "rules 0", "view 2 0",
        "viewByLog 2 0", "ruleFor 2 0", "reach 0 1", "arm 0 2", "kept 0 2", "isHeld 2 0", "entries",
        "shownLast 2 0", "setAttribute 2 0 4", "setAttribute 2 1 5", "setAttribute 2 2 1", "setTag 2 4 1",
        "setTag 2 4 0",
    };

    /** The question has the same answer after each of the calls, and after each that has nothing to do with it. */
    private static void stays(Object want, String question, Told x, String... calls) {
        x.due(want, question);
        for (String[] some : new String[][] {ELSEWHERE, NEARBY, calls}) {
            for (String call : some) {
                x.does(call).due(want, question);
            }
        }
    }

    private static void personsAndDraftsStay() {
        Told.sentence("A person has a land, an age, and a plan, and tags: what other calls leave as it is");
        Told x = Told.withAll().does("setAttribute 2 0 4", "setAttribute 2 1 5", "setAttribute 2 2 1", "setTag 2 1 1");
        x.define(1, "l=4&a=5&p=1&t1");
        stays(true, "isIn 1 2", x, "setTag 2 5 1", "setTag 2 5 0", "setAttribute 3 0 4", "setAttribute 1 1 8",
                "setTag 3 1 1", "setTag 3 1 0", "addRule 0 0 1 4", "show 2 0", "hold 2 0", "release 2 0",
                "removeRule 0 0", "beginAnew 0");
        x.in(1, 2);
        Told.sentence("a rule, which it gets from its draft when it is set: until it is set again");
        stays(true, "isIn 1 2", x, "type 1 38", "type 1 33", "type 1 42", "wouldMove 1", "erase 1 60", "type 1 124",
                "type 0 124", "type 0 116", "erase 0 1", "erase 0 2", "type 0 33", "type 0 42", "set 0");
        Told.sentence("Each audience has a draft: what other calls leave as it is");
        Told drafts = Told.withAll().write(1, "t1").does("set 1", "type 1 41", "type 1 98");
        stays(98, "sign 1 3", drafts, "setTag 2 1 1", "addRule 0 0 1 2", "show 2 0", "type 0 42", "erase 0 1", "set 0",
                "type 1 99", "erase 1 1", "removeRule 0 0");
        drafts.due(3, "erase 1 1").due(2, "fault 1");
    }

    private static void flagsStay() {
        Told.sentence("A flag has rules in an order: what other calls leave as it is");
        String[] calls = {"show 2 0", "setShares 0 0 0 0 0", "setSalt 0 3", "stop 0 1", "show 2 0", "hold 2 0",
            "release 2 0", "holdTrial 0", "show 2 0", "releaseTrial 0", "beginAnew 0", "setNeed 0 1 1",
            "addRule 1 0 0 1", "removeRule 1 0", "setNeed 0 1 0", "type 0 124", "erase 0 1", "set 0"};
        stays(2, "rules 0", Told.withTrial().does("addRule 0 0 5 2"), calls);
        stays(1, "ruleFor 2 0", Told.withTrial().does("addRule 0 0 5 2"), calls);
        Told.sentence("It can need other flags: what other calls leave as it is");
        stays(true, "setNeed 0 1 1", Told.withTrial().does("setNeed 0 1 1"), "addRule 0 0 0 2", "removeRule 0 0",
                "addRule 1 0 0 3", "show 2 0", "hold 2 0", "hold 2 1", "removeRule 1 0", "setNeed 0 2 1",
                "setNeed 1 2 1", "setNeed 0 2 0", "setNeed 1 2 0", "setNeed 2 0 1", "release 2 0", "holdTrial 0",
                "releaseTrial 0", "removeRule 0 0", "beginAnew 0");
    }

    private static void trialsStay() {
        Told.sentence("A trial has a share of each variant: what other calls leave as it is");
        stays(10, "setShares 0 1 2 3 4", Told.withTrial().does("setShares 0 1 2 3 4"), "setSalt 0 9", "show 2 0",
                "stop 0 2", "beginAnew 0", "hold 2 0", "addRule 0 0 0 5", "removeRule 0 1", "setShares 1 9 9 9 9",
                "release 2 0");
        Told.sentence("and a salt: what other calls leave as it is");
        stays(9, "setSalt 0 9", Told.withTrial().does("setSalt 0 9"), "setShares 0 0 0 0 0", "show 2 0", "stop 0 2",
                "beginAnew 0", "hold 2 0", "addRule 0 0 0 5", "removeRule 0 1", "setSalt 1 8", "release 2 0");
        stays(1, "arm 0 0", Told.withTrial(), "show 2 0", "show 0 0", "hold 0 0", "holdTrial 0", "release 0 0",
                "show 0 0", "releaseTrial 0", "beginAnew 0", "addRule 0 0 0 3", "show 0 0", "removeRule 0 1",
                "setAttribute 0 1 9");
        Told.sentence("if it is stopped, the variant to which it was: until it is begun anew");
        String[] calls = {"setShares 0 0 0 1 0", "setSalt 0 5", "show 2 0", "show 3 0", "hold 3 0", "release 3 0",
            "holdTrial 0", "show 4 0", "releaseTrial 0", "removeRule 0 0", "addRule 0 0 0 2", "show 2 0",
            "setNeed 0 1 1", "setShares 0 0 0 0 0"};
        stays(1, "arm 0 2", Told.withTrial().does("show 2 0", "stop 0 1"), calls);
        stays(1, "arm 0 0", Told.withTrial().does("show 2 0", "stop 0 1"), calls);
    }

    private static void keptArmsStay() {
        Told.sentence("it keeps this variant from now on");
        String[] calls = {"setShares 0 0 0 0 0", "setShares 0 0 1 0 0", "show 2 0", "setSalt 0 5", "show 2 0",
            "hold 2 0", "show 2 0", "release 2 0", "holdTrial 0", "show 2 0", "releaseTrial 0", "stop 0 1",
            "show 2 0", "stop 0 2", "addRule 0 0 0 2", "show 2 0", "removeRule 0 0", "removeRule 0 0", "show 2 0",
            "addRule 7 0 0 4", "show 2 7", "setNeed 7 6 1", "show 2 7", "setAttribute 2 1 9", "erase 0 1",
            "type 0 33", "type 0 42", "set 0"};
        Told x = Told.withTrial().does("show 2 0");
        stays(3, "kept 0 2", x, calls);
        x.due(2, "arm 0 2").due(1, "beginAnew 0").due(Told.NONE, "kept 0 2").sameByLog();
        Told.sentence("keeps none for the person: until a flag is shown by it");
        stays(Told.NONE, "kept 0 2", Told.withTrial().does("addRule 7 0 0 2"), "show 2 7", "show 3 0", "hold 2 0",
                "show 2 0", "release 2 0", "holdTrial 0", "releaseTrial 0", "stop 0 1", "show 2 0", "hold 2 0",
                "beginAnew 0", "show 2 0");
    }

    private static void shownLastStays() {
        Told.sentence("Returns the variant of a flag that was shown to a person last: until it is shown again");
        stays(3, "shownLast 2 0", Told.withTrial().does("show 2 0"), "setShares 0 0 1 0 0", "stop 0 1", "hold 2 0",
                "show 1 0", "release 2 0", "holdTrial 0", "show 3 0", "releaseTrial 0", "beginAnew 0", "show 2 1",
                "addRule 0 0 0 2", "removeRule 0 0", "view 2 0", "viewByLog 2 0", "removeRule 0 0", "hold 2 0",
                "release 2 0");
        Told.sentence("in which the flag was shown to the person by this trial since it was begun last");
        Told x = Told.withTrial().does("show 2 0");
        stays(3, "shownLast 2 0", x, "setShares 0 0 1 0 0", "setSalt 0 6", "stop 0 1", "hold 2 0", "release 2 0",
                "show 3 0", "holdTrial 1", "releaseTrial 1", "beginAnew 1", "removeRule 0 0", "addRule 1 0 0 2",
                "show 2 1", "setNeed 0 2 1");
        x.does("show 2 0").due(2, "holdTrial 0").due(3, "view 2 0").due(1, "view 3 0").due(false, "isHeld 2 1")
                .sameByLog();
    }

    private static void holdsStay() {
        Told.sentence("it is frozen to what it is then; it stays frozen to that until nothing holds it");
        String[] calls = {"setShares 0 0 1 0 0", "setSalt 0 5", "show 2 0", "hold 3 0", "release 3 0",
            "addRule 0 0 0 2", "show 2 0", "removeRule 0 0", "setNeed 0 1 1", "removeRule 0 0", "show 2 0",
            "setNeed 0 1 0", "stop 0 1", "addRule 0 0 0 4", "show 2 0", "beginAnew 0", "show 2 0", "holdTrial 0",
            "show 2 0", "releaseTrial 0", "erase 0 60", "type 0 33", "type 0 42", "set 0", "addRule 0 0 5 1",
            "viewByLog 2 0"};
        stays(3, "view 2 0", Told.withTrial().does("hold 2 0"), calls);
        stays(3, "viewByLog 2 0", Told.withTrial().does("hold 2 0"), calls);
        stays(true, "isHeld 2 0", Told.withTrial().does("hold 2 0"), calls);
        Told.sentence("When a trial is held, it holds each view ...: until it is released");
        String[] callsWhileHeld = {"show 2 0", "show 3 0", "addRule 0 0 0 2", "show 2 0", "hold 2 0", "show 2 0",
            "release 2 0", "setNeed 0 1 1", "removeRule 0 0", "removeRule 0 0", "show 2 0", "setNeed 0 1 0",
            "addRule 0 0 0 5", "show 2 0", "holdTrial 1", "releaseTrial 1", "beginAnew 1", "erase 0 60", "type 0 33",
            "type 0 42", "set 0", "viewByLog 2 0"};
        stays(3, "view 2 0", Told.withTrial().does("show 2 0", "holdTrial 0"), callsWhileHeld);
        stays(3, "viewByLog 2 0", Told.withTrial().does("show 2 0", "holdTrial 0"), callsWhileHeld);
        Told x = Told.withTrial().does("show 2 0", "holdTrial 0");
        stays(true, "isHeld 2 0", x, callsWhileHeld);
        x.refused(Told.STATE, "stop 0 3").refused(Told.STATE, "holdTrial 0").due(1, "releaseTrial 0").sameByLog();
    }

    public static void main(String[] args) {
        persons();
        audiences();
        flags();
        trials();
        typing();
        faults();
        settingRules();
        expressions();
        countsOfRules();
        needs();
        variantsAndArms();
        showings();
        movers();
        sharesAndSalts();
        beginnings();
        manyHolders();
        lastEntry();
        personsAndDraftsStay();
        flagsStay();
        trialsStay();
        keptArmsStay();
        shownLastStays();
        holdsStay();
        Told.end();
    }
}
