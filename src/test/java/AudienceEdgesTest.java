import java.util.ArrayList;
import java.util.List;

/** The edges that the document names for persons and audiences, promises 1 to 10: a test a sentence. */
public final class AudienceEdgesTest {
    private static final int MOST_SIGNS = 60;

    // ---- a new object

    private static void newObject() {
        Told.sentence("Empty drafts, no rules, no shares, nothing is held.");
        Told x = new Told().due(0, "entries");
        x.dueForAll(0, "fault #", 0, 5).dueForAll(0, "erase # 60", 0, 5).dueForAll(0, "rules #", 0, 7);
        x.dueForAll(20, "reach # 0", 0, 7).dueForAll(0, "reach # 3", 0, 7);
        x.dueForAll(0, "setShares # 0 0 0 0", 0, 5).dueForAll(0, "setSalt # 0", 0, 5).dueForAll(0, "stop # 0", 0, 5);
        for (int audience = 0; audience < 6; audience++) {
            x.refused(Told.INDEX, "sign " + audience + " 0").refused(Told.STATE, "set " + audience);
        }
        for (int flag = 0; flag < 8; flag++) {
            x.refused(Told.INDEX, "removeRule " + flag + " 0");
            x.dueForAll(Told.NONE, "ruleFor # " + flag, 0, 19);
        }
        for (int trial = 0; trial < 6; trial++) {
            x.refused(Told.STATE, "releaseTrial " + trial).dueForAll(0, "beginAnew " + trial, 0, 0);
        }
        nothingHeldAtFirst();
        twoObjects();
    }

    private static void nothingHeldAtFirst() {
        Told held = new Told();
        Told shown = new Told();
        Told kept = new Told();
        for (int person = 0; person < 20; person++) {
            for (int flag = 0; flag < 8; flag++) {
                held.due(false, "isHeld " + person + " " + flag);
                held.due(0, "view " + person + " " + flag);
                shown.due(Told.NONE, "shownLast " + person + " " + flag);
                shown.due(0, "viewByLog " + person + " " + flag);
            }
            for (int trial = 0; trial < 6; trial++) {
                kept.due(Told.NONE, "kept " + trial + " " + person).due(0, "arm " + trial + " " + person);
            }
        }
        new Told().refused(Told.STATE, "release 0 0").refused(Told.STATE, "release 19 7").sameByLog();
    }

    private static void twoObjects() {
        Told one = Told.withTrial().does("show 2 0", "setAttribute 0 1 5", "hold 3 0");
        Told other = new Told();
        other.due(0, "entries").due(0, "fault 0").due(0, "setAttribute 0 1 0").due(false, "isHeld 3 0").in(0);
        one.due(2, "entries").due(5, "setAttribute 0 1 0").due(true, "isHeld 3 0").due(3, "kept 0 2");
    }

    // ---- persons

    private static void attributes() {
        Told.sentence("A person has a land, 0 to 9, an age, 0 to 99, and a plan, 0 to 3, all 0 at first");
        Told x = new Told();
        int[] most = {9, 99, 3};
        for (int attribute = 0; attribute < 3; attribute++) {
            x.dueForAll(0, "setAttribute # " + attribute + " " + most[attribute], 0, 19);
        }
        for (int attribute = 2; attribute >= 0; attribute--) {
            x.dueForAll(most[attribute], "setAttribute # " + attribute + " 0", 0, 19);
        }
        Told.sentence("value: 0 to 9 for LAND, to 99 for AGE, to 3 for PLAN");
        x.refused(Told.ARGUMENT, "setAttribute 0 0 10").refused(Told.ARGUMENT, "setAttribute 0 1 100");
        x.refused(Told.ARGUMENT, "setAttribute 0 2 4").refused(Told.ARGUMENT, "setAttribute 0 0 -1");
        x.refused(Told.ARGUMENT, "setAttribute 0 1 -1").refused(Told.ARGUMENT, "setAttribute 0 2 -1");
        x.refused(Told.ARGUMENT, "setAttribute 0 -1 0").refused(Told.ARGUMENT, "setAttribute 0 3 0");
        Told.sentence("Sets an attribute of a person. Returns the value before.");
        for (int attribute = 0; attribute < 3; attribute++) {
            for (int value = 1; value <= most[attribute]; value++) {
                x.due(value - 1, "setAttribute 7 " + attribute + " " + value);
            }
        }
        x.due(9, "setAttribute 7 0 9").due(99, "setAttribute 7 1 99").due(3, "setAttribute 7 2 3");
    }

    private static void tags() {
        Told.sentence("tags, a set of the tags 0 to 7, none at first");
        Told x = new Told();
        for (int tag = 0; tag < 8; tag++) {
            x.dueForAll(false, "setTag # " + tag + " 1", 0, 19);
        }
        x.dueForAll(true, "setTag 0 # 0", 0, 7).dueForAll(true, "setTag 19 # 1", 0, 7);
        Told.sentence("Gives a person a tag, or takes it away. Returns whether the person had it.");
        x.due(false, "setTag 0 7 0").due(false, "setTag 0 0 1").due(true, "setTag 0 0 1").due(false, "setTag 0 1 0");
        x.due(true, "setTag 0 0 0").due(false, "setTag 0 0 0").due(true, "setTag 1 0 0");
    }

    // ---- drafts

    private static void fullDraft() {
        Told.sentence("Each audience has a draft, a text of at most 60 signs / ISE if it has 60 signs");
        for (int audience = 0; audience < 6; audience++) {
            Told x = new Told();
            for (int length = 1; length <= MOST_SIGNS; length++) {
                x.due(length, "type " + audience + " " + (32 + length));
            }
            x.refused(Told.STATE, "type " + audience + " 33").refused(Told.STATE, "type " + audience + " 126");
            x.due(33, "sign " + audience + " 0").due(32 + MOST_SIGNS, "sign " + audience + " 59");
            x.refused(Told.INDEX, "sign " + audience + " 60");
            x.due(59, "erase " + audience + " 1").due(60, "type " + audience + " 126");
            x.due(126, "sign " + audience + " 59").refused(Told.STATE, "type " + audience + " 42");
            x.due(1, "type " + (audience + 1) % 6 + " 42");
        }
    }

    private static void typedSigns() {
        Told.sentence("sign: 33 to 126; there are no blanks");
        Told x = new Told();
        for (int sign = 33; sign <= 126; sign++) {
            x.due(1, "type 3 " + sign).due(sign, "sign 3 0").due(0, "erase 3 1");
        }
        x.refused(Told.ARGUMENT, "type 3 32").refused(Told.ARGUMENT, "type 3 127").due(0, "fault 3");
        x.refused(Told.ARGUMENT, "type 3 0").refused(Told.ARGUMENT, "type 3 298").refused(Told.ARGUMENT, "type 3 65578");
    }

    private static void erasing() {
        Told.sentence("many: 1 or more; all, if it has not so many");
        Told x = new Told().due(0, "erase 5 1").due(0, "erase 5 2147483647");
        x.write(5, "abcde").due(4, "erase 5 1").due(2, "erase 5 2").due(98, "sign 5 1");
        x.refused(Told.INDEX, "sign 5 2").due(0, "erase 5 2").refused(Told.INDEX, "sign 5 0");
        x.write(5, "abc").due(0, "erase 5 4").write(5, "abc").due(0, "erase 5 2147483647").due(1, "type 5 42");
        x.refused(Told.ARGUMENT, "erase 5 0").refused(Told.ARGUMENT, "erase 5 -1");
        x.refused(Told.ARGUMENT, "erase 5 -2147483648").due(1, "type 4 33").due(42, "sign 5 0");
        Told full = new Told().doesForAll("type 0 #", 33, 92);
        full.due(59, "erase 0 1").due(1, "erase 0 58").due(33, "sign 0 0").due(0, "erase 0 60");
        Told.sentence("IndexOutOfBoundsException if there is no such sign");
        x.does("erase 5 60").write(5, "xyz").due((int) 'x', "sign 5 0").due((int) 'z', "sign 5 2");
        x.refused(Told.INDEX, "sign 5 3").refused(Told.INDEX, "sign 5 -1").refused(Told.INDEX, "sign 5 -2147483648");
        x.refused(Told.INDEX, "sign 5 2147483647").due(2, "erase 5 1").refused(Told.INDEX, "sign 5 2");
    }

    // ---- the fault of a text

    /** After the text, just these of all signs that can be typed can stand. */
    private static void canStand(String text, String signs) {
        Told x = new Told().write(0, text);
        for (int sign = 33; sign <= 126; sign++) {
            x.does("type 0 " + sign);
            int fault = faultOf(x);
            boolean stands = fault == Told.NONE || fault > text.length();
            Told.check(text + " and then " + (char) sign + " can stand", signs.indexOf(sign) >= 0, stands);
            Told.check(text + " and then " + (char) sign + " stands or is the fault", true,
                    stands || fault == text.length());
            x.does("erase 0 1");
        }
    }

    private static int faultOf(Told x) {
        return x.number("fault 0");
    }

    private static void whatCanStand() {
        Told.sentence("factor = \"!\" factor, or \"(\" expression \")\", or test; test = ...");
        for (String text : new String[] {"", "!", "!!", "(", "((((((("}) {
            canStand(text, "!(*lapt@");
            canStand("t0|" + text, "!(*lapt@");
            canStand("(l=10)&" + text, "!(*lapt@");
        }
        Told.sentence("\"l\", \"a\" or \"p\", each with \"=\", \"<\" or \">\" and a number");
        for (String attribute : new String[] {"l", "a", "p", "!l", "(a"}) {
            canStand(attribute, "=<>");
            canStand(attribute + "=", "0123456789");
            canStand(attribute + "<", "0123456789");
            canStand(attribute + ">", "0123456789");
        }
        Told.sentence("A number is one or two digits");
        for (String number : new String[] {"l=0", "a<9", "p>5"}) {
            canStand(number, "0123456789|&");
            canStand("(" + number, "0123456789|&)");
            canStand(number + "0", "|&");
            canStand(number + "9", "|&");
            canStand("(" + number + "7", "|&)");
        }
        Told.sentence("a tag a digit from 0 to 7, an audience a digit from 0 to 5");
        canStand("t", "01234567");
        canStand("!t", "01234567");
        canStand("@", "012345");
        canStand("(@", "012345");
        Told.sentence("expression = term { \"|\" term }; term = factor { \"&\" factor }");
        for (String factor : new String[] {"*", "t0", "t7", "@0", "@5", "(*)", "!*", "*|*", "*&t1", "((t1))"}) {
            canStand(factor, "|&");
            canStand("(" + factor, "|&)");
        }
    }

    private static void brackets() {
        Told.sentence("at most 8 brackets are open at a place");
        canStand("((((((((", "!*lapt@");
        canStand("((((((((!", "!*lapt@");
        canStand("((((((((*|", "!*lapt@");
        canStand("((((((((*)|", "!(*lapt@");
        canStand("((((((((*)))))))", "|&)");
        canStand("((((((((*))))))))", "|&");
        canStand("(*)&(*)&(*)&(*)&(*)&(*)&(*)&(*)&", "!(*lapt@");
        faultIs(Told.NONE, "((((((((*))))))))");
        faultIs(8, "(((((((((*)))))))))");
        faultIs(Told.NONE, "((((((((*)))))))|(*))&(((*)))");
        faultIs(16, "!(!(!(!(!(!(!(!((*)))))))))");
        faultIs(12, "((((((((*)|((*))))))))))");
        faultIs(17, "((((((((*)))))))))");
    }

    private static void faultIs(int want, String text) {
        Told x = new Told().write(0, text);
        Told.check("the fault of " + text, want, faultOf(x));
        if (want != Told.NONE) {
            x.refused(Told.STATE, "set 0").refused(Told.STATE, "wouldMove 0");
        }
    }

    private static void textsThatEndTooEarly() {
        Told.sentence("if there is none, and the text ends too early, also if it is empty, its length");
        String[] texts = {"", "!", "(", "l", "a", "p", "t", "@", "l=", "a<", "p>", "*|", "*&", "(*", "(*|", "((*)", "!!",
            "t1&(", "l=1|", "(l=1", "(l=12", "(@5", "((((((((", "((((((((*)))))))"};
        for (String text : texts) {
            faultIs(text.length(), text);
        }
        String full = "!".repeat(MOST_SIGNS);
        faultIs(MOST_SIGNS, full);
        faultIs(MOST_SIGNS, full.substring(4) + "(*&*");
        faultIs(MOST_SIGNS, full.substring(1) + "t");
        Told.sentence("the index of the first sign that cannot stand at its place");
        faultIs(0, ")");
        faultIs(0, "=1))");
        faultIs(1, "**)");
        faultIs(4, "l=12345");
        faultIs(MOST_SIGNS - 1, full.substring(1) + ")");
        faultIs(MOST_SIGNS - 1, full.substring(2) + "*(");
        faultIs(Told.NONE, full.substring(1) + "*");
        faultIs(Told.NONE, full.substring(2) + "t7");
        faultIs(Told.NONE, full.substring(4) + "l=99");
        Told x = new Told().write(0, "*)").due(1, "fault 0").does("erase 0 1").due(Told.NONE, "fault 0");
        x.does("erase 0 1").due(0, "fault 0").dueForAll(0, "fault #", 1, 5);
        Told.sentence("No rule refers to its own audience: that is no fault of the text");
        new Told().write(0, "@0").due(Told.NONE, "fault 0").refused(Told.STATE, "set 0");
    }

    // ---- who meets what

    private static void metBy(String text, Integer... persons) {
        Told x = new Told();
        x.does("setAttribute 1 0 4", "setAttribute 2 0 5", "setAttribute 3 0 6", "setAttribute 4 0 9");
        x.does("setAttribute 1 1 49", "setAttribute 2 1 50", "setAttribute 3 1 51", "setAttribute 4 1 99");
        x.does("setAttribute 1 2 1", "setAttribute 2 2 2", "setAttribute 3 2 3");
        x.doesForAll("setTag # 0 1", 5, 19).doesForAll("setTag # 1 1", 5, 19);
        for (int tag = 2; tag < 8; tag++) {
            x.does("setTag " + (8 + tag) + " " + tag + " 1");
        }
        x.define(0, "l>4").define(5, text).in(5, persons);
    }

    private static final Integer[] ALL = upTo(19);
    private static final Integer[] NOBODY = {};

    private static Integer[] upTo(int last) {
        Integer[] all = new Integer[last + 1];
        for (int i = 0; i <= last; i++) {
            all[i] = i;
        }
        return all;
    }

    /** All persons but these. */
    private static Integer[] but(Integer... persons) {
        List<Integer> left = new ArrayList<>(List.of(ALL));
        left.removeAll(List.of(persons));
        return left.toArray(new Integer[0]);
    }

    private static void comparisons() {
        Told.sentence("those whose land, age or plan is the number, is less, or is greater");
        metBy("l=5", 2);
        metBy("l<5", but(2, 3, 4));
        metBy("l>5", 3, 4);
        metBy("l=0", but(1, 2, 3, 4));
        metBy("l<0", NOBODY);
        metBy("l>0", 1, 2, 3, 4);
        metBy("l=9", 4);
        metBy("l<9", but(4));
        metBy("l>9", NOBODY);
        metBy("l>8", 4);
        metBy("a=50", 2);
        metBy("a<50", but(2, 3, 4));
        metBy("a>50", 3, 4);
        metBy("a=99", 4);
        metBy("a<99", but(4));
        metBy("a>99", NOBODY);
        metBy("a>98", 4);
        metBy("a=0", but(1, 2, 3, 4));
        metBy("a<0", NOBODY);
        metBy("a<1", but(1, 2, 3, 4));
        metBy("p=2", 2);
        metBy("p<2", but(2, 3));
        metBy("p>2", 3);
        metBy("p=3", 3);
        metBy("p>3", NOBODY);
        metBy("p<3", but(3));
        metBy("p<0", NOBODY);
        Told.sentence("A number is one or two digits");
        metBy("l=05", 2);
        metBy("l=10", NOBODY);
        metBy("l<10", ALL);
        metBy("l>99", NOBODY);
        metBy("l<99", ALL);
        metBy("a=5", NOBODY);
        metBy("a=00", but(1, 2, 3, 4));
        metBy("a<05", but(1, 2, 3, 4));
        metBy("p=03", 3);
        metBy("p=30", NOBODY);
        metBy("p<4", ALL);
    }

    private static void otherTests() {
        Told.sentence("\"*\" is met by all; \"t\" by those who have the tag");
        metBy("*", ALL);
        metBy("t0", but(0, 1, 2, 3, 4));
        for (int tag = 2; tag < 8; tag++) {
            metBy("t" + tag, 8 + tag);
        }
        Told.sentence("\"@\" by those who are in the audience");
        metBy("@0", 2, 3, 4);
        metBy("@1", NOBODY);
        metBy("!@4", ALL);
        Told.sentence("\"!\" by who does not meet the factor");
        metBy("!*", NOBODY);
        metBy("!!*", ALL);
        metBy("!l=5", but(2));
        metBy("!l=5&l>3", 1, 3, 4);
        metBy("!(l=5|l=6)&l>3", 1, 4);
        metBy("!".repeat(58) + "t2", 10);
        metBy("!".repeat(57) + "t2", but(10));
        Told.sentence("\"|\" is met by who meets one term or more, \"&\" by who meets all factors");
        metBy("t2|t3", 10, 11);
        metBy("t2&t3", NOBODY);
        metBy("t2|t2", 10);
        metBy("t2&t2", 10);
        metBy("t0&t2|t3", 10, 11);
        metBy("t3|t0&t2", 10, 11);
        metBy("(t2|t3)&t0", 10, 11);
        metBy("t0&(t3|t2)&!t3", 10);
        metBy("t2|t3|t4|t5|t6|t7|l=4|l=5|l=6|l=9", 1, 2, 3, 4, 10, 11, 12, 13, 14, 15);
        metBy("*|*|*|*|*|*|*|*|*|*|*|*|*|*|*|*|*|*|*|*|*|*|*|*|*|*|*|*|*|t2", ALL);
        metBy("*&*&*&*&*&*&*&*&*&*&*&*&*&*&*&*&*&*&*&*&*&*&*&*&*&*&*&*&*&t2", 10);
        metBy("((((((((t2))))))))", 10);
        metBy("t3&((((((((t2))))))))", NOBODY);
        metBy("!(t3|!(t0&!(t1&!(t2|(t3|(t4|(t5|(t6))))))))", 10, 12, 13, 14);
    }

    // ---- rules

    private static void rulesAndDrafts() {
        Told.sentence("a rule, which it gets from its draft when it is set; at first it has none, and nobody is in it");
        Told x = new Told().doesForAll("setAttribute # 1 7", 3, 4).in(0).in(5).write(0, "*").in(0);
        x.due(20, "set 0").in(0, ALL).due((int) '*', "sign 0 0").does("erase 0 1").in(0, ALL).due(0, "fault 0");
        x.refused(Told.STATE, "set 0").write(0, "a=7").in(0, ALL).due(18, "set 0").in(0, 3, 4);
        Told.sentence("\"@\" by those who are in the audience, as it is set");
        Told y = new Told().write(1, "*").define(0, "@1").in(0).due(20, "set 1").in(0, ALL);
        y.rewrite(1, "!*").in(0, ALL).due(20, "set 1").in(0).in(1);
    }

    private static void countsOfSet() {
        Told.sentence("Returns how many persons come to be in it, or are not in it any more.");
        Told x = new Told().does("setTag 0 0 1", "setTag 19 1 1", "setTag 8 0 1", "setTag 8 1 1");
        x.write(2, "!*").due(0, "set 2").rewrite(2, "t0").due(2, "set 2").due(0, "set 2");
        x.rewrite(2, "t1").due(2, "set 2").rewrite(2, "*").due(18, "set 2").rewrite(2, "!*").due(20, "set 2");
        x.rewrite(2, "t0|t1").due(3, "set 2").rewrite(2, "!(t0|t1)").due(20, "set 2").in(2, but(0, 8, 19));
        Told.sentence("Returns how many persons ...: those of the audience itself, not of others that refer to it");
        new Told().define(1, "@0").write(0, "t0").due(0, "set 0").rewrite(0, "*").due(20, "set 0").due(0, "set 1");
    }

    private static void ownAudience() {
        Told.sentence("No rule refers to its own audience, over others or not.");
        for (int audience = 0; audience < 6; audience++) {
            Told x = new Told().write(audience, "@" + audience);
            refusedToSet(x, audience);
            x.rewrite(audience, "*|!(t0&@" + audience + ")");
            refusedToSet(x, audience);
        }
        for (int step : new int[] {1, 5}) {
            Told chain = new Told();
            for (int i = 0; i < 5; i++) {
                chain.define(i * step % 6, "@" + (i + 1) * step % 6);
            }
            int last = 5 * step % 6;
            for (int other = 0; other < 6; other++) {
                chain.rewrite(last, "t1|!@" + other);
                refusedToSet(chain, last);
            }
            chain.define(last, "*").in(0, ALL);
            chain.define(2 * step % 6, "t1").define(last, "@0").in(last);
            chain.rewrite(2 * step % 6, "@" + 3 * step % 6);
            refusedToSet(chain, 2 * step % 6);
        }
        loopsThatAreNone();
    }

    private static void refusedToSet(Told x, int audience) {
        x.refused(Told.STATE, "set " + audience).refused(Told.STATE, "wouldMove " + audience);
    }

    private static void loopsThatAreNone() {
        Told x = new Told().write(0, "@1").write(1, "@0").due(0, "set 0");
        refusedToSet(x, 1);
        x.rewrite(0, "*");
        refusedToSet(x, 1);
        x.due(20, "set 0").due(20, "set 1").due(0, "set 1");
        x.rewrite(0, "@1");
        refusedToSet(x, 0);
        x.define(2, "@1&@0").define(3, "@2|@1|@0|@4").define(5, "@3&@3").in(5, ALL);
    }

    private static void personsWhoChange() {
        Told.sentence("is met by those whose land, age or plan is the number ..., by those who have the tag");
        Told x = new Told();
        for (int audience = 0; audience < 5; audience++) {
            x.define(audience, "!@" + (audience + 1));
        }
        x.define(5, "l=9&a=99&p=3&t7").in(4, ALL).does("setAttribute 19 0 9", "setAttribute 19 1 99").in(5);
        x.does("setAttribute 19 2 3").in(5).does("setTag 19 7 1").in(5, 19).in(4, but(19)).in(3, 19).in(0, but(19));
        x.does("setTag 19 7 0").in(5).in(0, ALL).does("setTag 19 7 1").in(5, 19);
        for (String[] calls : new String[][] {{"setAttribute 19 0 8", "setAttribute 19 0 9"},
            {"setAttribute 19 1 98", "setAttribute 19 1 99"}, {"setAttribute 19 2 2", "setAttribute 19 2 3"}}) {
            x.does(calls[0]).due(false, "isIn 5 19").due(true, "isIn 0 19");
            x.does(calls[1]).due(true, "isIn 5 19").due(false, "isIn 0 19");
        }
        Told y = new Told().define(5, "t0").define(0, "t1").define(3, "@0|@5").write(2, "*");
        y.does("setTag 0 0 1", "setTag 1 1 1", "addRule 0 0 3 1").due(0, "wouldMove 2").due(20, "set 2").in(5, 0).in(0, 1);
        y.in(3, 0, 1).due(2, "reach 0 1").does("setTag 1 1 0", "setTag 2 0 1").rewrite(2, "!*").due(0, "wouldMove 2");
        y.due(20, "set 2").in(5, 0, 2).in(0).in(3, 0, 2);
    }

    // ---- who would move

    private static void countsOfWouldMove() {
        Told.sentence("how many persons would have another view of some flag");
        Told x = new Told().doesForAll("setTag # 0 1", 19, 19).does("setTag 0 1 1").write(0, "*");
        x.due(0, "wouldMove 0").does("addRule 7 0 0 3").due(20, "wouldMove 0").does("addRule 0 0 0 1");
        x.due(20, "wouldMove 0").rewrite(0, "t0").due(1, "wouldMove 0").rewrite(0, "t1|t0").due(2, "wouldMove 0");
        x.rewrite(0, "!t1").due(19, "wouldMove 0").rewrite(0, "!*").due(0, "wouldMove 0").in(0).due(0, "entries");
        x.rewrite(0, "t1").due(1, "set 0").due(0, "wouldMove 0").rewrite(0, "t0").due(2, "wouldMove 0");
        x.changesNothing("wouldMove 0").rewrite(0, "!t1").due(20, "wouldMove 0");
        Told.sentence("another view: not where another rule gives the same, nor where it is held, nor where it is 0");
        Told same = Told.withAll().does("addRule 0 0 0 2", "addRule 0 0 1 2").write(1, "*").due(0, "wouldMove 1");
        same.does("addRule 0 0 1 0").due(20, "wouldMove 1").does("hold 0 0", "hold 19 0").due(18, "wouldMove 1");
        same.does("setNeed 0 1 1").due(0, "wouldMove 1").does("addRule 1 0 1 3").due(20, "wouldMove 1");
        Told arms = Told.withTrial().does("addRule 0 0 1 3").write(1, "*").due(15, "wouldMove 1");
        arms.does("stop 0 3").due(0, "wouldMove 1").does("stop 0 2").due(20, "wouldMove 1");
        Told.sentence("IllegalStateException if the draft has a fault, or a rule would refer to its own audience");
        Told bad = new Told().refused(Told.STATE, "wouldMove 5").write(5, "@").refused(Told.STATE, "wouldMove 5");
        bad.write(5, "5").refused(Told.STATE, "wouldMove 5").rewrite(5, "@4").due(0, "wouldMove 5");
        bad.define(4, "@5").refused(Told.STATE, "wouldMove 5").rewrite(5, "*|*)").refused(Told.STATE, "wouldMove 5");
    }

    public static void main(String[] args) {
        newObject();
        attributes();
        tags();
        fullDraft();
        typedSigns();
        erasing();
        whatCanStand();
        brackets();
        textsThatEndTooEarly();
        comparisons();
        otherTests();
        rulesAndDrafts();
        countsOfSet();
        ownAudience();
        personsWhoChange();
        countsOfWouldMove();
        Told.end();
    }
}
