/** One method a promise: ordinary calls, the edges that the document names, and wrong calls. */
public final class PromisesTest {
    private interface Call {
        long run();
    }

    private static final int NONE = FlagChamber.NONE;
    private static final int LAND = FlagChamber.LAND, AGE = FlagChamber.AGE, PLAN = FlagChamber.PLAN;
    private static final int LOW = Integer.MIN_VALUE, HIGH = Integer.MAX_VALUE;

    private static int promise;
    private static int wrong;

    // ---- what the tests share

    private static void due(String what, long want, long got) {
        if (got != want) {
            wrong++;
            System.out.println("promise " + promise + ", " + what + ": " + got + ", due is " + want);
        }
    }

    private static void due(String what, boolean want, boolean got) {
        due(what, want ? 1 : 0, got ? 1 : 0);
    }

    private static void dueThrow(String what, Class<?> want, Call call) {
        Class<?> got = null;
        try {
            call.run();
        } catch (RuntimeException e) {
            got = e.getClass();
        }
        if (got != want) {
            wrong++;
            System.out.println("promise " + promise + ", " + what + ": throws " + got + ", due is " + want);
        }
    }

    private static void argument(String what, Call call) {
        dueThrow(what, IllegalArgumentException.class, call);
    }

    private static void index(String what, Call call) {
        dueThrow(what, IndexOutOfBoundsException.class, call);
    }

    private static void state(String what, Call call) {
        dueThrow(what, IllegalStateException.class, call);
    }

    private static long number(boolean answer) {
        return answer ? 1 : 0;
    }

    private interface CallOf {
        long run(int argument);
    }

    /** The call throws for each argument outside of the range. */
    private static void range(String what, int least, int most, CallOf call) {
        for (int bad : new int[] {LOW, least - 1, most + 1, HIGH}) {
            argument(what + " " + bad, () -> call.run(bad));
        }
    }

    private static void write(FlagChamber x, int audience, String text) {
        x.erase(audience, 60);
        for (int i = 0; i < text.length(); i++) {
            x.type(audience, text.charAt(i));
        }
    }

    private static int define(FlagChamber x, int audience, String text) {
        write(x, audience, text);
        return x.set(audience);
    }

    private static int faultOf(String text) {
        FlagChamber x = new FlagChamber();
        write(x, 3, text);
        return x.fault(3);
    }

    /** An object whose audience 0 has everybody. */
    private static FlagChamber withAll() {
        FlagChamber x = new FlagChamber();
        define(x, 0, "*");
        return x;
    }

    /** The same, where the flag 0 has a rule that sends everybody to the trial 0, with equal shares. */
    private static FlagChamber withTrial() {
        FlagChamber x = withAll();
        x.addRule(0, 0, 0, 4);
        x.setShares(0, 1, 1, 1, 1);
        return x;
    }

    private static void fillLog(FlagChamber x) {
        while (x.entries() < 400) {
            x.show(19, 7);
        }
    }

    // ---- the promises

    private static void promise1() {
        FlagChamber x = new FlagChamber();
        for (int audience = 0; audience < 6; audience++) {
            int a = audience;
            due("fault of an empty draft", 0, x.fault(a));
            index("sign of an empty draft", () -> x.sign(a, 0));
            for (int person = 0; person < 20; person++) {
                due("isIn", false, x.isIn(a, person));
            }
        }
        for (int flag = 0; flag < 8; flag++) {
            due("rules", 0, x.rules(flag));
            due("reach of 0", 20, x.reach(flag, 0));
            due("ruleFor", NONE, x.ruleFor(19, flag));
            due("view", 0, x.view(19, flag));
            due("viewByLog", 0, x.viewByLog(19, flag));
            due("isHeld", false, x.isHeld(19, flag));
            due("shownLast", NONE, x.shownLast(19, flag));
        }
        for (int trial = 0; trial < 6; trial++) {
            int t = trial;
            due("arm", 0, x.arm(t, 19));
            due("kept", NONE, x.kept(t, 19));
            state("releaseTrial", () -> x.releaseTrial(t));
            due("shares", 0, x.setShares(t, 0, 0, 0, 0));
            due("salt", 0, x.setSalt(t, 0));
            due("stopped to 0", 0, x.stop(t, 0));
        }
        state("release", () -> x.release(0, 0));
        due("entries", 0, x.entries());
        due("attributes", 0, x.setAttribute(19, LAND, 1) + x.setAttribute(19, AGE, 1) + x.setAttribute(19, PLAN, 1));
        due("tag", false, x.setTag(19, 7, true));
        due("need", false, x.setNeed(0, 7, true));
    }

    private static void promise2() {
        FlagChamber x = new FlagChamber();
        int[] most = {9, 99, 3};
        for (int attribute = LAND; attribute <= PLAN; attribute++) {
            int a = attribute;
            due("most", 0, x.setAttribute(19, a, most[a]));
            due("least", most[a], x.setAttribute(19, a, 0));
            range("value", 0, most[a], v -> x.setAttribute(0, a, v));
            due("after a throw", 0, x.setAttribute(0, a, 1));
        }
        due("other person", 0, x.setAttribute(18, AGE, 5));
        range("person", 0, 19, p -> x.setAttribute(p, LAND, 0));
        range("attribute", LAND, PLAN, a -> x.setAttribute(0, a, 0));
        define(x, 0, "a=7");
        define(x, 1, "@0&l=2");
        define(x, 2, "!@1");
        due("not yet", false, x.isIn(1, 4));
        x.setAttribute(4, AGE, 7);
        x.setAttribute(4, LAND, 2);
        due("moves at once", true, x.isIn(0, 4));
        due("moves over another", true, x.isIn(1, 4));
        due("moves over two", false, x.isIn(2, 4));
        due("moves no other", true, x.isIn(2, 5));
    }

    private static void promise3() {
        FlagChamber x = new FlagChamber();
        due("given", false, x.setTag(3, 7, true));
        due("given again", true, x.setTag(3, 7, true));
        due("another tag", false, x.setTag(3, 6, false));
        due("another person", false, x.setTag(4, 7, false));
        due("taken", true, x.setTag(3, 7, false));
        due("taken again", false, x.setTag(3, 7, false));
        due("gone", false, x.setTag(3, 7, true));
        range("person", 0, 19, p -> number(x.setTag(p, 0, true)));
        range("tag", 0, 7, t -> number(x.setTag(0, t, true)));
        define(x, 5, "t7");
        due("in", true, x.isIn(5, 3));
        x.setTag(3, 0, true);
        due("the others stay", true, x.isIn(5, 3));
        x.setTag(3, 7, false);
        due("out", false, x.isIn(5, 3));
    }

    private static void promise4() {
        FlagChamber x = new FlagChamber();
        range("audience", 0, 5, a -> x.type(a, '*'));
        range("sign", 33, 126, s -> x.type(0, s));
        due("first sign", 1, x.type(0, 33));
        due("last sign", 2, x.type(0, 126));
        due("own draft", 1, x.type(1, 'x'));
        for (int i = 3; i <= 60; i++) {
            due("length", i, x.type(0, 'a'));
        }
        state("61 signs", () -> x.type(0, 'a'));
        argument("first the argument", () -> x.type(0, 127));
        due("a throw changes nothing", 59, x.erase(0, 1));
        due("room again", 60, x.type(0, 'b'));
        due("the last one", 'b', x.sign(0, 59));
    }

    private static void promise5() {
        FlagChamber x = new FlagChamber();
        range("audience", 0, 5, a -> x.erase(a, 1));
        for (int bad : new int[] {0, -1, LOW}) {
            argument("many", () -> x.erase(0, bad));
        }
        due("of none", 0, x.erase(0, 1));
        write(x, 0, "abcde");
        due("the last ones", 3, x.erase(0, 2));
        due("stays", 'c', x.sign(0, 2));
        index("gone", () -> x.sign(0, 3));
        due("typed behind", 4, x.type(0, 'z'));
        due("typed behind", 'z', x.sign(0, 3));
        due("more than all", 0, x.erase(0, HIGH));
        write(x, 0, "ab");
        due("just all", 0, x.erase(0, 2));
    }

    private static void promise6() {
        FlagChamber x = new FlagChamber();
        write(x, 2, "!*~");
        due("first", '!', x.sign(2, 0));
        due("last", '~', x.sign(2, 2));
        for (int bad : new int[] {3, -1, LOW, HIGH}) {
            index("index", () -> x.sign(2, bad));
        }
        range("audience", 0, 5, a -> x.sign(a, 0));
        argument("first the audience", () -> x.sign(6, -1));
    }

    private static void promise7() {
        range("audience", 0, 5, a -> new FlagChamber().fault(a));
        String[] good = {"*", "l=0", "a<99", "p>12", "l=03", "a=1|p=2", "t0", "t7", "@0", "@5", "!*", "!!!t1", "(*)",
            "((((((((*))))))))", "(*)&(*)", "!(a>1)|*", "!((t1|t2)&!@4)", "l<1&l=2|a>33", "a=0)".substring(0, 3)};
        for (String text : good) {
            due(text, NONE, faultOf(text));
        }
        String[] early = {"", "!", "(", "(*", "l", "a=", "p<", "t", "@", "*|", "*&", "*&!", "((*)", "!!", "(a=1"};
        for (String text : early) {
            due(text, text.length(), faultOf(text));
        }
        // The sign behind the blank is the first that cannot stand.
        String[] bad = {" )", " |", " &", " =", " 1", " x", " L", " T", "* *", "* !", "* (", "* )", "* 1", "* t",
            "l ! =", "l 1", "l l", "a= =", "a= a", "a=1 a", "a=12 3", "a=1 =", "a=1 (", "a=12 !", "t 8", "t 9", "t /",
            "t a", "t1 1", "@ 6", "@ 9", "@ a", "@1 0", "( )", "(* a", "(*) )", "(*) (", "(*) *", "! )", "! &",
            "*| |", "*& |", "(((((((( (", "(((((((*)|(( (", "a<1|a< >"};
        for (String text : bad) {
            due(text, text.indexOf(' '), faultOf(text.replace(" ", "")));
        }
        due("nine in a row are fine", NONE, faultOf("((((((((*))))))))&(*)|((*))"));
        StringBuilder full = new StringBuilder();
        for (int i = 0; i < 60; i++) {
            full.append('!');
        }
        due("60 signs", 60, faultOf(full.toString()));
        full.setCharAt(59, '*');
        due("60 signs", NONE, faultOf(full.toString()));
        FlagChamber x = withAll();
        x.type(0, ')');
        due("of the draft, not of the rule", 1, x.fault(0));
    }

    private static void promise8() {
        FlagChamber x = new FlagChamber();
        range("audience", 0, 5, x::set);
        state("empty", () -> x.set(0));
        write(x, 0, "*)");
        state("fault", () -> x.set(0));
        write(x, 0, "@0");
        state("itself", () -> x.set(0));
        write(x, 0, "*|@0&*");
        state("itself, though it matters not", () -> x.set(0));
        due("all come", 20, define(x, 0, "*"));
        due("none moves", 0, x.set(0));
        due("the draft stays", '*', x.sign(0, 0));
        x.type(0, '&');
        due("the rule stays till it is set", true, x.isIn(0, 3));
        x.setAttribute(3, LAND, 4);
        x.setAttribute(4, LAND, 5);
        due("18 go", 18, define(x, 0, "l>3"));
        due("one goes", 1, define(x, 0, "l=4"));
        due("one goes, one comes", 2, define(x, 0, "l=5"));
        due("over one", 19, define(x, 1, "!@0"));
        write(x, 0, "@1");
        state("itself over one", () -> x.set(0));
        define(x, 2, "@1");
        write(x, 0, "t1&(@2|*)");
        state("itself over two", () -> x.set(0));
        due("a throw changes nothing", true, x.isIn(0, 4));
        due("only its own are counted", 1, define(x, 0, "!*"));
        due("others follow", true, x.isIn(1, 4));
        due("others follow over one", true, x.isIn(2, 4));
        define(x, 1, "*");
        due("no reference is left", 20, define(x, 0, "@2"));
        due("an audience that has no rule has nobody", 20, define(x, 3, "!@4"));
        due("a loop of drafts alone is none", 0, define(x, 4, "!*"));
        x.setAttribute(8, AGE, 80);
        define(x, 5, "a=80");
        x.setAttribute(9, AGE, 80);
        define(x, 4, "*");
        due("one that has nothing to do with it stays as it is", true, x.isIn(5, 9));
        FlagChamber first = new FlagChamber();
        define(first, 0, "a=80");
        first.setAttribute(9, AGE, 80);
        define(first, 1, "*");
        due("one that has nothing to do with it stays as it is", true, first.isIn(0, 9));
        whoMeetsWhat();
    }

    private static void whoMeetsWhat() {
        FlagChamber x = new FlagChamber();
        x.setAttribute(1, LAND, 3);
        x.setAttribute(1, AGE, 40);
        x.setAttribute(1, PLAN, 2);
        x.setTag(1, 0, true);
        x.setTag(1, 5, true);
        define(x, 5, "t0");
        String[] met = {"*", "l=3", "l=03", "l<4", "l>2", "a=40", "a<41", "a>39", "a>4", "p=2", "p<3", "p>1", "p<99",
            "t0", "t5", "@5", "!t1", "!!t0", "!(t1)", "t0&t5", "t1|t5", "t1&t1|t5", "t5|t1&t1", "t0|t0&t1",
            "(t5|t0)&t0", "!t1&t0", "!(t1|t2)", "!(t0&t1)", "!!(t0)", "!(!(t0))", "((t0))", "l=3&a=40&p=2",
            "t1|t2|t0", "!@4", "!t0|t0", "(t1|t0)&(t5|t1)", "!((t1|!t0)&t0)"};
        for (String text : met) {
            define(x, 0, text);
            due(text + " is met", true, x.isIn(0, 1));
            due(text + " is met, so not with ! before it", false, meets(x, "!(" + text + ")"));
            x.erase(0, 60);
        }
        due("eight brackets are met", true, meets(x, "((((((((t0))))))))"));
        due("eight brackets are met", true, meets(x, "!((((((((t1|t2))))))))&t5"));
        due("eight brackets are not met", false, meets(x, "t1|!((t5|((((((t2&t0)))))))|t1)"));
        FlagChamber y = new FlagChamber();
        y.setAttribute(1, LAND, 3);
        y.setAttribute(1, AGE, 40);
        y.setTag(1, 0, true);
        String[] notMet = {"!*", "l=4", "l<3", "l>3", "a=4", "a<40", "a>40", "a=04", "p>0", "p<0", "t1", "@1", "!t0",
            "!!!t0", "t0&t1", "t1|t2", "(t0|t1)&t1", "!(t0|t1)", "t1&t0|t2", "t2|t1&t0", "!t0|t1", "!t0&t0",
            "!(t0)&*", "l=3&a=41", "(!t0)|(t1)", "!t1&!t0"};
        for (String text : notMet) {
            define(y, 0, text);
            due(text + " is not met", false, y.isIn(0, 1));
            y.erase(0, 60);
        }
    }

    private static boolean meets(FlagChamber x, String text) {
        define(x, 1, text);
        return x.isIn(1, 1);
    }

    private static void promise9() {
        FlagChamber x = new FlagChamber();
        range("audience", 0, 5, x::wouldMove);
        state("empty", () -> x.wouldMove(0));
        write(x, 0, "@0");
        state("itself", () -> x.wouldMove(0));
        define(x, 1, "@0");
        write(x, 0, "@1");
        state("over another", () -> x.wouldMove(0));
        write(x, 0, "*");
        due("no rule sees it", 0, x.wouldMove(0));
        x.addRule(0, 0, 1, 2);
        x.addRule(1, 0, 0, 0);
        x.addRule(2, 0, 1, 3);
        due("over another, each person once", 20, x.wouldMove(0));
        due("nothing is set", false, x.isIn(0, 0));
        due("no view moved", 20, x.reach(0, 0));
        x.hold(4, 0);
        due("another flag is not held", 20, x.wouldMove(0));
        x.hold(4, 2);
        due("held views stay", 19, x.wouldMove(0));
        x.setNeed(2, 3, true);
        x.setNeed(0, 3, true);
        due("needs stop them", 0, x.wouldMove(0));
        x.addRule(3, 0, 0, 1);
        due("needs let them", 20, x.wouldMove(0));
        due("no entry", 2, x.entries());
        x.set(0);
        due("it is set already", 0, x.wouldMove(0));
        write(x, 0, "!*|@5|@4");
        due("and back", 20, x.wouldMove(0));
        x.setNeed(0, 3, false);
        x.setNeed(2, 3, false);
        x.removeRule(3, 0);
        x.removeRule(2, 0);
        x.addRule(0, 0, 5, 1);
        x.addRule(0, 2, 3, 2);
        define(x, 3, "a=0");
        due("another rule gives the same", 0, x.wouldMove(0));
        x.setAttribute(7, AGE, 1);
        due("another rule gives not the same", 1, x.wouldMove(0));
        keptArmsStay();
        newReferencesAreFollowed();
    }

    private static void keptArmsStay() {
        FlagChamber x = withTrial();
        x.show(2, 0);
        x.setShares(0, 1, 0, 0, 0);
        due("kept", 3, x.view(2, 0));
        write(x, 0, "!*");
        due("only who keeps an arm beside 0", 1, x.wouldMove(0));
        due("it is kept still", 3, x.kept(0, 2));
    }

    private static void newReferencesAreFollowed() {
        FlagChamber chain = new FlagChamber();
        define(chain, 5, "t3");
        for (int audience = 4; audience >= 0; audience--) {
            define(chain, audience, "!@" + (audience + 1));
        }
        chain.addRule(0, 0, 0, 1);
        write(chain, 5, "*");
        due("over six", 20, chain.wouldMove(5));
        chain.setTag(0, 3, true);
        due("over six", 19, chain.wouldMove(5));
        due("over six", 19, chain.reach(0, 1));
        FlagChamber x = new FlagChamber();
        define(x, 5, "*");
        define(x, 4, "@5");
        define(x, 0, "!*");
        define(x, 1, "@0");
        define(x, 2, "@1");
        x.addRule(0, 0, 2, 1);
        write(x, 0, "@4");
        due("as many", 20, x.wouldMove(0));
        due("come", 20, x.set(0));
        due("and moved", 20, x.reach(0, 1));
        define(x, 5, "a=1");
        due("by the far end", 20, x.reach(0, 0));
        x.setAttribute(6, AGE, 1);
        due("by the person", 1, x.view(6, 0));
    }

    private static void promise10() {
        FlagChamber x = new FlagChamber();
        x.setAttribute(19, LAND, 1);
        define(x, 5, "l=1");
        due("in", true, x.isIn(5, 19));
        due("out", false, x.isIn(5, 0));
        due("no rule", false, x.isIn(4, 19));
        range("audience", 0, 5, a -> number(x.isIn(a, 0)));
        range("person", 0, 19, p -> number(x.isIn(0, p)));
    }

    private static void promise11() {
        FlagChamber x = withAll();
        range("flag", 0, 7, f -> x.addRule(f, 0, 0, 0));
        range("audience", 0, 5, a -> x.addRule(0, 0, a, 0));
        range("outcome", 0, 9, o -> x.addRule(0, 0, 0, o));
        for (int bad : new int[] {LOW, -1, 1, HIGH}) {
            index("place", () -> x.addRule(0, bad, 0, 0));
        }
        argument("first the argument", () -> x.addRule(0, 1, 6, 0));
        argument("first the argument", () -> x.addRule(0, -1, 0, 10));
        due("nothing is added", 0, x.rules(0));
        due("one", 1, x.addRule(0, 0, 1, 1));
        due("before it", 2, x.addRule(0, 0, 2, 2));
        due("behind it", 3, x.addRule(0, 2, 3, 3));
        due("between", 4, x.addRule(0, 1, 4, 9));
        due("the fifth", 5, x.addRule(0, 4, 0, 0));
        state("the sixth", () -> x.addRule(0, 5, 0, 0));
        state("the sixth, ahead", () -> x.addRule(0, 0, 0, 0));
        index("first the place", () -> x.addRule(0, 6, 0, 0));
        argument("first the argument", () -> x.addRule(0, 6, 6, 0));
        due("another flag has none", 0, x.rules(1));
        due("order", 2, x.removeRule(0, 0));
        due("order", 9, x.removeRule(0, 0));
        due("order", 1, x.removeRule(0, 0));
        due("order", 3, x.removeRule(0, 0));
        due("order", 0, x.removeRule(0, 0));
        x.addRule(7, 0, 1, 3);
        x.addRule(7, 0, 0, 2);
        due("the audience goes with its rule", 2, x.view(0, 7));
        due("the audience goes with its rule", 0, x.ruleFor(0, 7));
        x.addRule(7, 0, 5, 1);
        due("the audience goes with its rule", 1, x.ruleFor(0, 7));
    }

    private static void promise12() {
        FlagChamber x = withAll();
        range("flag", 0, 7, f -> x.removeRule(f, 0));
        index("none", () -> x.removeRule(0, 0));
        x.addRule(0, 0, 1, 5);
        x.addRule(0, 1, 0, 2);
        x.addRule(0, 2, 0, 3);
        for (int bad : new int[] {LOW, -1, 3, HIGH}) {
            index("place", () -> x.removeRule(0, bad));
        }
        argument("first the flag", () -> x.removeRule(8, 9));
        due("nothing is removed", 3, x.rules(0));
        due("outcome", 2, x.removeRule(0, 1));
        due("those behind have one less", 1, x.ruleFor(0, 0));
        due("those behind have one less", 3, x.view(0, 0));
        due("outcome", 5, x.removeRule(0, 0));
        due("those behind have one less", 0, x.ruleFor(0, 0));
        due("the last", 3, x.removeRule(0, 0));
        due("none is left", 0, x.view(0, 0));
        index("none is left", () -> x.removeRule(0, 0));
    }

    private static void promise13() {
        FlagChamber x = new FlagChamber();
        range("flag", 0, 7, x::rules);
        for (int i = 0; i < 5; i++) {
            due("before", i, x.rules(7));
            x.addRule(7, 0, 0, 0);
        }
        due("after", 5, x.rules(7));
        x.removeRule(7, 4);
        due("one less", 4, x.rules(7));
        due("another flag", 0, x.rules(6));
    }

    private static void promise14() {
        FlagChamber x = new FlagChamber();
        range("flag", 0, 7, f -> number(x.setNeed(f, 0, true)));
        range("other", 0, 7, f -> number(x.setNeed(0, f, true)));
        argument("itself", () -> number(x.setNeed(3, 3, true)));
        argument("itself, not any more", () -> number(x.setNeed(3, 3, false)));
        due("not yet", false, x.setNeed(1, 0, true));
        due("already", true, x.setNeed(1, 0, true));
        state("two", () -> number(x.setNeed(0, 1, true)));
        due("the other way it did not", false, x.setNeed(0, 1, false));
        due("it did", true, x.setNeed(1, 0, false));
        due("not any more", false, x.setNeed(1, 0, false));
        for (int flag = 7; flag > 0; flag--) {
            due("a chain of eight", false, x.setNeed(flag, flag - 1, true));
        }
        state("round all", () -> number(x.setNeed(0, 7, true)));
        state("round a part", () -> number(x.setNeed(2, 5, true)));
        due("over it is fine", false, x.setNeed(7, 0, true));
        due("a throw changes nothing", true, x.setNeed(7, 6, true));
        due("the chain opens", true, x.setNeed(4, 3, false));
        state("it is needed still", () -> number(x.setNeed(0, 7, true)));
        due("not needed any more", true, x.setNeed(7, 0, false));
        due("now it can", false, x.setNeed(0, 7, true));
        state("now that is round", () -> number(x.setNeed(4, 0, true)));
    }

    private static void promise15() {
        FlagChamber x = withAll();
        range("person", 0, 19, p -> x.view(p, 0));
        range("flag", 0, 7, f -> x.view(0, f));
        define(x, 1, "t1");
        x.setTag(9, 1, true);
        x.addRule(0, 0, 1, 3);
        due("no rule", 0, x.view(8, 0));
        due("a rule", 3, x.view(9, 0));
        x.addRule(0, 1, 0, 1);
        due("the first rule", 3, x.view(9, 0));
        due("the second rule", 1, x.view(8, 0));
        x.addRule(0, 0, 0, 0);
        due("a rule for 0", 0, x.view(9, 0));
        x.removeRule(0, 0);
        x.addRule(1, 0, 0, 2);
        x.addRule(2, 0, 0, 9);
        x.stop(5, 3);
        due("the last trial", 3, x.view(0, 2));
        x.setNeed(2, 1, true);
        x.setNeed(1, 0, true);
        due("all are needed and there", 3, x.view(0, 2));
        x.removeRule(0, 1);
        due("needed one is 0", 0, x.view(8, 1));
        due("over another", 0, x.view(8, 2));
        due("another person", 3, x.view(9, 2));
        x.hold(8, 1);
        x.addRule(0, 0, 0, 1);
        due("held at 0", 0, x.view(8, 1));
        due("over the held one", 0, x.view(8, 2));
        x.hold(7, 1);
        x.removeRule(0, 0);
        due("held at 2, though it needs one that is 0", 2, x.view(7, 1));
        due("over the held one", 3, x.view(7, 2));
        x.setNeed(2, 0, true);
        due("one of two is 0", 0, x.view(7, 2));
        due("no entry by views", 2, x.entries());
        chainsOfNeeds();
    }

    private static void chainsOfNeeds() {
        FlagChamber up = withAll();
        FlagChamber down = withAll();
        for (int flag = 0; flag < 8; flag++) {
            up.addRule(flag, 0, 0, 1);
            down.addRule(flag, 0, 0, 1);
            if (flag < 7) {
                up.setNeed(flag, flag + 1, true);
                down.setNeed(flag + 1, flag, true);
            }
        }
        due("a chain of eight", 1, up.view(0, 0));
        due("a chain of eight", 1, down.view(0, 7));
        up.removeRule(7, 0);
        down.removeRule(0, 0);
        due("its end is 0", 0, up.view(0, 0));
        due("its end is 0", 0, down.view(0, 7));
        up.hold(0, 7);
        up.addRule(7, 0, 0, 2);
        due("its end is held at 0", 0, up.view(0, 0));
        due("for one person", 1, up.view(1, 0));
    }

    private static void promise16() {
        FlagChamber x = withTrial();
        range("person", 0, 19, p -> x.viewByLog(p, 0));
        range("flag", 0, 7, f -> x.viewByLog(0, f));
        x.show(1, 0);
        x.show(2, 0);
        x.hold(3, 0);
        x.setShares(0, 0, 0, 1, 0);
        sameByLog(x, "kept", 1, 0);
        sameByLog(x, "kept", 2, 3);
        sameByLog(x, "held", 3, 2);
        sameByLog(x, "neither", 0, 2);
        x.holdTrial(0);
        x.addRule(0, 0, 0, 1);
        sameByLog(x, "held by the trial", 1, 0);
        sameByLog(x, "held by the trial", 2, 3);
        sameByLog(x, "not shown", 0, 1);
        x.hold(2, 0);
        x.releaseTrial(0);
        sameByLog(x, "released", 1, 1);
        sameByLog(x, "held twice", 2, 3);
        x.release(2, 0);
        sameByLog(x, "released", 2, 1);
        x.removeRule(0, 0);
        sameByLog(x, "kept still", 2, 3);
        x.stop(0, 1);
        sameByLog(x, "stopped", 2, 1);
        x.show(4, 0);
        x.beginAnew(0);
        sameByLog(x, "begun anew", 2, 2);
        sameByLog(x, "shown while stopped", 4, 2);
        x.hold(0, 0);
        x.view(1, 0);
        x.setShares(0, 0, 0, 0, 1);
        due("another than was seen before", 3, x.viewByLog(2, 0));
        due("held, while another moves", 2, x.viewByLog(0, 0));
        x.release(0, 0);
        due("nothing is shown by that", NONE, x.shownLast(0, 0));
        due("no entry by that", 11, x.entries());
    }

    private static void sameByLog(FlagChamber x, String what, int person, int want) {
        due(what, want, x.view(person, 0));
        due(what + ", by log", want, x.viewByLog(person, 0));
        due(what + ", by log again", want, x.viewByLog(person, 0));
        due(what + ", afterwards", want, x.view(person, 0));
    }

    private static void promise17() {
        FlagChamber x = withAll();
        range("person", 0, 19, p -> x.ruleFor(p, 0));
        range("flag", 0, 7, f -> x.ruleFor(0, f));
        due("no rule", NONE, x.ruleFor(0, 0));
        for (int i = 0; i < 5; i++) {
            x.addRule(0, i, i < 4 ? 1 : 0, 1);
        }
        due("the last", 4, x.ruleFor(0, 0));
        x.setNeed(0, 1, true);
        due("though it needs one that is 0", 4, x.ruleFor(0, 0));
        x.hold(0, 0);
        due("though it is held", 4, x.ruleFor(0, 0));
        define(x, 1, "t1");
        x.setTag(0, 1, true);
        due("the first", 0, x.ruleFor(0, 0));
        due("another person", 4, x.ruleFor(1, 0));
        x.removeRule(0, 4);
        due("none meets", NONE, x.ruleFor(1, 0));
    }

    private static void promise18() {
        FlagChamber x = new FlagChamber();
        range("flag", 0, 7, f -> x.reach(f, 0));
        range("variant", 0, 3, v -> x.reach(0, v));
        for (int person = 0; person < 7; person++) {
            x.setTag(person, 0, true);
        }
        define(x, 0, "t0");
        x.addRule(7, 0, 0, 3);
        due("3", 7, x.reach(7, 3));
        due("2", 0, x.reach(7, 2));
        due("0", 13, x.reach(7, 0));
        x.hold(19, 7);
        x.hold(0, 7);
        define(x, 0, "!t0");
        due("held ones stay", 13, x.reach(7, 3));
        due("held ones stay", 7, x.reach(7, 0));
        x.setNeed(7, 1, true);
        due("needs", 1, x.reach(7, 3));
    }

    private static void promise19() {
        FlagChamber x = withTrial();
        range("person", 0, 19, p -> x.show(p, 0));
        range("flag", 0, 7, f -> x.show(0, f));
        due("no entry yet", 0, x.entries());
        due("by a trial", 3, x.show(2, 0));
        due("an entry", 1, x.entries());
        due("keeps", 3, x.kept(0, 2));
        due("keeps for no other person", NONE, x.kept(0, 3));
        due("by no trial", 0, x.show(2, 1));
        x.setShares(0, 0, 1, 0, 0);
        due("what is kept", 3, x.show(2, 0));
        due("it stays kept", 3, x.kept(0, 2));
        x.addRule(1, 0, 0, 4);
        due("over another flag", 3, x.show(2, 1));
        notKept();
        due("no rule", 0, x.show(9, 7));
        due("so by no trial", NONE, x.kept(0, 9));
        x.setNeed(1, 0, true);
        x.addRule(0, 0, 0, 0);
        due("it needs the flag 0", 0, x.show(6, 1));
        due("so nothing is kept", NONE, x.kept(0, 6));
        x.removeRule(0, 0);
        x.setNeed(0, 2, true);
        due("it needs one that is 0", 0, x.show(5, 0));
        due("so nothing is kept", NONE, x.kept(0, 5));
        x.addRule(2, 0, 0, 1);
        due("the other is there", 1, x.show(5, 0));
        due("so it is kept", 1, x.kept(0, 5));
        fillLog(x);
        state("the log is full", () -> x.show(0, 0));
        argument("first the argument", () -> x.show(0, 8));
        due("a throw changes nothing", NONE, x.shownLast(0, 0));
        due("nor keeps", NONE, x.kept(0, 0));
        due("nor enters", 400, x.entries());
    }

    private static void notKept() {
        FlagChamber x = withTrial();
        x.hold(1, 0);
        due("held", 0, x.show(1, 0));
        due("a held one is not kept", NONE, x.kept(0, 1));
        x.stop(0, 2);
        due("stopped", 2, x.show(3, 0));
        due("stopped, so not kept", NONE, x.kept(0, 3));
        due("but shown by the trial", 1, x.holdTrial(0));
        due("the held one was not shown by it", true, x.isHeld(1, 0));
        x.release(1, 0);
        due("the held one was not shown by it", false, x.isHeld(1, 0));
        FlagChamber y = withTrial();
        y.addRule(0, 0, 0, 1);
        y.show(1, 0);
        due("the trial does not decide", NONE, y.kept(0, 1));
        due("nor was it shown by it", 0, y.holdTrial(0));
        y.removeRule(0, 0);
        due("shown while it is held", 3, y.show(2, 0));
        due("kept while it is held", 3, y.kept(0, 2));
    }

    private static void promise20() {
        FlagChamber x = withAll();
        range("trial", 0, 5, t -> x.setShares(t, 0, 0, 0, 0));
        range("first", 0, 100, s -> x.setShares(0, s, 0, 0, 0));
        range("second", 0, 100, s -> x.setShares(0, 0, s, 0, 0));
        range("third", 0, 100, s -> x.setShares(0, 0, 0, s, 0));
        range("fourth", 0, 100, s -> x.setShares(0, 0, 0, 0, s));
        due("none before", 0, x.setShares(5, 100, 100, 100, 100));
        due("all before", 400, x.setShares(5, 1, 2, 3, 4));
        due("sum", 10, x.setShares(5, 0, 0, 0, 0));
        for (int variant = 0; variant < 4; variant++) {
            x.setShares(5, variant == 0 ? 9 : 0, variant == 1 ? 9 : 0, variant == 2 ? 9 : 0, variant == 3 ? 9 : 0);
            due("one share alone", variant, x.arm(5, 11));
        }
        x.addRule(0, 0, 0, 9);
        x.show(1, 0);
        x.setShares(5, 0, 7, 0, 0);
        due("kept arms stay", 3, x.arm(5, 1));
        due("the others go", 1, x.arm(5, 2));
        x.holdTrial(5);
        state("held", () -> x.setShares(5, 0, 0, 0, 0));
        argument("first the argument", () -> x.setShares(5, 0, 0, 0, 101));
        due("another trial", 0, x.setShares(4, 0, 0, 0, 0));
        x.releaseTrial(5);
        due("a throw changes nothing", 7, x.setShares(5, 0, 0, 0, 0));
    }

    private static void promise21() {
        FlagChamber x = withTrial();
        range("trial", 0, 5, t -> x.setSalt(t, 0));
        range("salt", 0, 1000, s -> x.setSalt(0, s));
        due("none before", 0, x.setSalt(0, 1000));
        due("most before", 1000, x.setSalt(0, 7));
        due("own salt", 0, x.setSalt(1, 3));
        x.setSalt(0, 0);
        x.show(2, 0);
        x.setSalt(0, 1);
        due("kept arms stay", 3, x.arm(0, 2));
        // (7919 * 3 + 104729 + 13) % 1000003 % 4 = 128499 % 4
        due("the others go", 3, x.arm(0, 3));
        x.holdTrial(0);
        state("held", () -> x.setSalt(0, 5));
        argument("first the argument", () -> x.setSalt(0, 1001));
        x.releaseTrial(0);
        due("a throw changes nothing", 1, x.setSalt(0, 0));
    }

    private static void promise22() {
        FlagChamber x = withTrial();
        range("trial", 0, 5, t -> x.stop(t, 0));
        range("variant", 0, 3, v -> x.stop(0, v));
        due("those with another arm", 15, x.stop(0, 3));
        due("the same again", 0, x.stop(0, 3));
        due("another", 20, x.stop(0, 1));
        due("the arm", 1, x.arm(0, 7));
        x.beginAnew(0);
        x.show(2, 0);
        x.setShares(0, 1, 0, 0, 0);
        due("the kept arm counts", 1, x.stop(0, 0));
        due("it is kept still", 3, x.kept(0, 2));
        due("no entry", 2, x.entries());
        x.holdTrial(0);
        state("held", () -> x.stop(0, 1));
        argument("first the argument", () -> x.stop(0, 4));
        due("a throw changes nothing", 0, x.arm(0, 5));
        due("another trial", 20, x.stop(1, 1));
    }

    private static void promise23() {
        FlagChamber x = withTrial();
        x.addRule(1, 0, 0, 5);
        range("trial", 0, 5, x::beginAnew);
        due("none kept", 0, x.beginAnew(0));
        due("an entry", 1, x.entries());
        x.show(0, 0);
        x.show(2, 0);
        x.show(19, 0);
        x.show(2, 0);
        x.show(2, 1);
        x.stop(0, 2);
        x.show(3, 0);
        due("three kept", 3, x.beginAnew(0));
        due("nothing is kept", NONE, x.kept(0, 2));
        due("another trial keeps", 0, x.kept(1, 2));
        due("not stopped", 3, x.arm(0, 2));
        due("shown last", 2, x.shownLast(3, 0));
        due("shown last", 3, x.shownLast(2, 0));
        due("that it was shown is forgotten", 0, x.holdTrial(0));
        due("not of another trial", 1, x.holdTrial(1));
        state("held", () -> x.beginAnew(0));
        x.releaseTrial(0);
        due("the shares stay", 4, x.setShares(0, 1, 1, 1, 1));
        due("the salt stays", 0, x.setSalt(0, 9));
        x.beginAnew(0);
        due("the salt stays", 9, x.setSalt(0, 0));
        x.show(1, 0);
        x.stop(0, 1);
        fillLog(x);
        state("the log is full", () -> x.beginAnew(0));
        argument("first the argument", () -> x.beginAnew(6));
        due("a throw changes nothing", 0, x.kept(0, 1));
        due("a throw changes nothing", 1, x.arm(0, 1));
    }

    private static void promise24() {
        FlagChamber x = new FlagChamber();
        range("trial", 0, 5, t -> x.arm(t, 0));
        range("person", 0, 19, p -> x.arm(0, p));
        due("no shares", 0, x.arm(3, 7));
        x.setShares(3, 10, 20, 30, 40);
        for (int salt : new int[] {0, 1, 500, 1000}) {
            x.setSalt(3, salt);
            for (int person = 0; person < 20; person++) {
                int b = (int) ((7919L * person + 104729L * salt + 13) % 1000003 % 100);
                due("share", b < 10 ? 0 : b < 30 ? 1 : b < 60 ? 2 : 3, x.arm(3, person));
            }
        }
        x.setSalt(3, 0);
        x.setShares(3, 0, 0, 14, 86);
        due("13 is below 14", 2, x.arm(3, 0));
        x.setShares(3, 0, 13, 0, 87);
        due("13 is not below 13", 3, x.arm(3, 0));
        x.setShares(3, 0, 13, 0, 0);
        due("13 by 13 leaves 0", 1, x.arm(3, 0));
        x.stop(3, 2);
        due("stopped", 2, x.arm(3, 0));
        due("another trial", 0, x.arm(2, 0));
    }

    private static void promise25() {
        FlagChamber x = withTrial();
        range("trial", 0, 5, t -> x.kept(t, 0));
        range("person", 0, 19, p -> x.kept(0, p));
        due("none", NONE, x.kept(0, 2));
        x.show(2, 0);
        due("kept", 3, x.kept(0, 2));
        due("another trial", NONE, x.kept(1, 2));
        due("another person", NONE, x.kept(0, 1));
        x.stop(0, 1);
        x.show(2, 0);
        x.show(1, 0);
        due("stopped", 3, x.kept(0, 2));
        due("stopped before", NONE, x.kept(0, 1));
        x.beginAnew(0);
        due("begun anew", NONE, x.kept(0, 2));
    }

    private static void promise26() {
        FlagChamber x = withTrial();
        range("person", 0, 19, p -> x.hold(p, 0));
        range("flag", 0, 7, f -> x.hold(0, f));
        due("frozen", 3, x.hold(2, 0));
        state("twice", () -> x.hold(2, 0));
        x.stop(0, 1);
        due("it stays", 3, x.view(2, 0));
        due("nothing is shown", NONE, x.shownLast(2, 0));
        due("nothing is kept", NONE, x.kept(0, 2));
        due("another", 1, x.hold(3, 0));
        x.show(4, 0);
        x.holdTrial(0);
        x.addRule(0, 0, 0, 2);
        due("held by a trial: what it was frozen to", 1, x.hold(4, 0));
        due("entries", 5, x.entries());
        x.releaseTrial(0);
        due("it stays", 1, x.view(4, 0));
        due("0 can be frozen", 0, x.hold(4, 5));
        fillLog(x);
        state("the log is full", () -> x.hold(19, 0));
        argument("first the argument", () -> x.hold(20, 0));
        due("a throw changes nothing", false, x.isHeld(19, 0));
        due("nor enters", 400, x.entries());
    }

    private static void promise27() {
        FlagChamber x = withTrial();
        range("person", 0, 19, p -> x.release(p, 0));
        range("flag", 0, 7, f -> x.release(0, f));
        state("not held", () -> x.release(2, 0));
        x.show(2, 0);
        x.holdTrial(0);
        state("held by a trial alone", () -> x.release(2, 0));
        x.hold(2, 0);
        x.addRule(0, 0, 0, 1);
        due("the trial holds it", 3, x.release(2, 0));
        due("the trial holds it", true, x.isHeld(2, 0));
        state("twice", () -> x.release(2, 0));
        x.hold(2, 0);
        x.releaseTrial(0);
        due("nothing holds it", 1, x.release(2, 0));
        due("nothing holds it", false, x.isHeld(2, 0));
        due("entries", 7, x.entries());
        due("held anew: frozen anew", 1, x.hold(2, 0));
        fillLog(x);
        state("the log is full", () -> x.release(2, 0));
        due("a throw changes nothing", true, x.isHeld(2, 0));
    }

    private static void promise28() {
        FlagChamber x = withTrial();
        range("trial", 0, 5, x::holdTrial);
        x.addRule(1, 0, 0, 4);
        x.addRule(2, 0, 0, 5);
        x.show(2, 0);
        x.show(2, 1);
        x.show(1, 0);
        x.show(2, 2);
        x.addRule(0, 0, 0, 1);
        x.show(2, 0);
        x.hold(1, 0);
        due("three, with that which is held", 3, x.holdTrial(0));
        due("frozen to what the trial showed last", 3, x.view(2, 0));
        due("what was shown last", 1, x.shownLast(2, 0));
        due("frozen to what it was frozen to", 1, x.view(1, 0));
        due("another person", false, x.isHeld(3, 0));
        due("another trial", false, x.isHeld(2, 2));
        due("an entry", 7, x.entries());
        state("held", () -> x.holdTrial(0));
        due("another trial can be held", 1, x.holdTrial(1));
        stoppedShowings();
        twoTrials();
        fillLog(x);
        state("the log is full", () -> x.holdTrial(2));
        argument("first the argument", () -> x.holdTrial(6));
        due("a throw changes nothing", 0, x.stop(2, 0));
    }

    private static void stoppedShowings() {
        FlagChamber x = withTrial();
        x.show(2, 0);
        x.stop(0, 1);
        x.show(2, 0);
        x.stop(0, 2);
        due("a stopped one can be held", 1, x.holdTrial(0));
        due("shown last by the stopped trial", 1, x.view(2, 0));
        due("shown meanwhile", 2, x.show(4, 0));
        due("is not held", false, x.isHeld(4, 0));
        due("only what it held", 1, x.releaseTrial(0));
        due("is held by the next", 2, x.holdTrial(0));
        due("is held by the next", true, x.isHeld(4, 0));
    }

    private static void twoTrials() {
        FlagChamber x = withTrial();
        x.show(2, 0);
        x.removeRule(0, 0);
        x.addRule(0, 0, 0, 5);
        x.stop(1, 1);
        x.show(2, 0);
        due("the first", 1, x.holdTrial(1));
        due("the second", 1, x.holdTrial(0));
        due("the first one froze it", 1, x.view(2, 0));
        due("the second holds it still", 0, x.releaseTrial(1));
        due("the second holds it still", true, x.isHeld(2, 0));
        x.stop(1, 2);
        due("it stays frozen", 1, x.view(2, 0));
        due("by log", 1, x.viewByLog(2, 0));
        due("now nothing holds it", 1, x.releaseTrial(0));
        due("free", 2, x.view(2, 0));
        due("frozen anew", 1, x.holdTrial(0));
        due("to what this trial showed", 3, x.view(2, 0));
    }

    private static void promise29() {
        FlagChamber x = withTrial();
        range("trial", 0, 5, x::releaseTrial);
        state("not held", () -> x.releaseTrial(0));
        x.show(0, 0);
        x.show(2, 0);
        x.show(19, 0);
        due("three", 3, x.holdTrial(0));
        x.hold(2, 0);
        state("another trial", () -> x.releaseTrial(1));
        due("two of three", 2, x.releaseTrial(0));
        due("an entry", 6, x.entries());
        due("free", false, x.isHeld(0, 0));
        due("held by itself", true, x.isHeld(2, 0));
        state("twice", () -> x.releaseTrial(0));
        due("its shares can be set", 4, x.setShares(0, 1, 1, 1, 1));
        x.release(2, 0);
        x.holdTrial(0);
        fillLog(x);
        state("the log is full", () -> x.releaseTrial(0));
        argument("first the argument", () -> x.releaseTrial(-1));
        due("a throw changes nothing", true, x.isHeld(0, 0));
        state("it is held still", () -> x.stop(0, 0));
    }

    private static void promise30() {
        FlagChamber x = withTrial();
        range("person", 0, 19, p -> number(x.isHeld(p, 0)));
        range("flag", 0, 7, f -> number(x.isHeld(0, f)));
        x.hold(19, 7);
        due("by itself", true, x.isHeld(19, 7));
        due("another person", false, x.isHeld(18, 7));
        due("another flag", false, x.isHeld(19, 6));
        x.show(0, 0);
        x.holdTrial(0);
        due("by a trial", true, x.isHeld(0, 0));
        x.releaseTrial(0);
        due("released", false, x.isHeld(0, 0));
        x.release(19, 7);
        due("released", false, x.isHeld(19, 7));
    }

    private static void promise31() {
        FlagChamber x = withTrial();
        due("none", 0, x.entries());
        x.setShares(0, 1, 1, 1, 0);
        x.setSalt(0, 1);
        x.stop(0, 1);
        x.view(0, 0);
        due("nothing enters that", 0, x.entries());
        x.show(0, 0);
        due("show", 1, x.entries());
        x.hold(0, 0);
        due("hold", 2, x.entries());
        x.release(0, 0);
        due("release", 3, x.entries());
        x.holdTrial(0);
        due("holdTrial", 4, x.entries());
        state("a throw enters nothing", () -> x.holdTrial(0));
        due("a throw enters nothing", 4, x.entries());
        x.releaseTrial(0);
        due("releaseTrial", 5, x.entries());
        x.beginAnew(0);
        due("beginAnew", 6, x.entries());
        for (int i = 7; i <= 400; i++) {
            x.show(5, 5);
            due("show", i, x.entries());
        }
        state("the log is full", () -> x.show(0, 0));
        due("400", 400, x.entries());
    }

    private static void promise32() {
        FlagChamber x = withTrial();
        range("person", 0, 19, p -> x.shownLast(p, 0));
        range("flag", 0, 7, f -> x.shownLast(0, f));
        due("none", NONE, x.shownLast(2, 0));
        x.show(2, 0);
        due("by a trial", 3, x.shownLast(2, 0));
        due("another person", NONE, x.shownLast(1, 0));
        due("another flag", NONE, x.shownLast(2, 1));
        x.addRule(0, 0, 0, 1);
        x.show(2, 0);
        due("the last", 1, x.shownLast(2, 0));
        x.hold(2, 0);
        x.removeRule(0, 0);
        x.stop(0, 2);
        x.show(2, 0);
        due("held", 1, x.shownLast(2, 0));
        x.release(2, 0);
        due("releasing shows nothing", 1, x.shownLast(2, 0));
        x.beginAnew(0);
        due("it stays", 1, x.shownLast(2, 0));
        x.show(2, 6);
        due("0 can be shown", 0, x.shownLast(2, 6));
    }

    private static void run(int number, Runnable test) {
        promise = number;
        test.run();
    }

    public static void main(String[] args) {
        Runnable[] tests = {
            PromisesTest::promise1, PromisesTest::promise2, PromisesTest::promise3, PromisesTest::promise4,
            PromisesTest::promise5, PromisesTest::promise6, PromisesTest::promise7, PromisesTest::promise8,
            PromisesTest::promise9, PromisesTest::promise10, PromisesTest::promise11, PromisesTest::promise12,
            PromisesTest::promise13, PromisesTest::promise14, PromisesTest::promise15, PromisesTest::promise16,
            PromisesTest::promise17, PromisesTest::promise18, PromisesTest::promise19, PromisesTest::promise20,
            PromisesTest::promise21, PromisesTest::promise22, PromisesTest::promise23, PromisesTest::promise24,
            PromisesTest::promise25, PromisesTest::promise26, PromisesTest::promise27, PromisesTest::promise28,
            PromisesTest::promise29, PromisesTest::promise30, PromisesTest::promise31, PromisesTest::promise32,
        };
        for (int i = 0; i < tests.length; i++) {
            run(i + 1, tests[i]);
        }
        if (wrong != 0) {
            System.out.println(wrong + " answers are not as due");
            System.exit(1);
        }
    }
}
