/** The edges that the document names for flags, promises 11 to 19: a test a sentence. */
public final class FlagEdgesTest {
    // ---- rules

    private static void fullRuleList() {
        Told.sentence("A flag has up to 5 rules in an order, numbered from 0 / ISE if it has 5");
        for (int flag = 0; flag < 8; flag++) {
            Told x = Told.withAll().due(0, "rules " + flag);
            for (int count = 1; count <= 5; count++) {
                x.due(count, "addRule " + flag + " 0 0 " + count).due(count, "rules " + flag);
            }
            for (int place = 0; place <= 5; place++) {
                x.refused(Told.STATE, "addRule " + flag + " " + place + " 0 0");
            }
            x.refused(Told.INDEX, "addRule " + flag + " 6 0 0").refused(Told.INDEX, "addRule " + flag + " -1 0 0");
            x.due(5, "removeRule " + flag + " 0").due(5, "addRule " + flag + " 4 0 9");
            x.refused(Told.STATE, "addRule " + flag + " 5 0 0").due(9, "removeRule " + flag + " 4");
            x.due(1, "addRule " + (flag + 1) % 8 + " 0 0 0").due(4, "rules " + flag);
        }
    }

    private static void places() {
        Told.sentence("place: 0 to the number of its rules: its number then; those from there on have one more");
        Told x = Told.withAll().refused(Told.INDEX, "addRule 3 1 0 0").refused(Told.INDEX, "addRule 3 -1 0 0");
        x.due(1, "addRule 3 0 1 1").refused(Told.INDEX, "addRule 3 2 0 0").due(2, "addRule 3 1 2 2");
        x.due(3, "addRule 3 0 3 3").due(4, "addRule 3 1 0 4").due(1, "ruleFor 0 3");
        x.due(5, "addRule 3 4 5 5").due(1, "ruleFor 0 3").due(3, "removeRule 3 0").due(0, "ruleFor 0 3");
        x.due(4, "removeRule 3 0").due(Told.NONE, "ruleFor 0 3").due(5, "removeRule 3 2").due(1, "removeRule 3 0");
        x.due(2, "removeRule 3 0").refused(Told.INDEX, "addRule 3 1 0 0");
        Told.sentence("IndexOutOfBoundsException if there is no such rule");
        Told y = Told.withAll();
        for (int flag = 0; flag < 8; flag++) {
            y.refused(Told.INDEX, "removeRule " + flag + " 0").refused(Told.INDEX, "removeRule " + flag + " -1");
        }
        y.does("addRule 4 0 0 3").refused(Told.INDEX, "removeRule 4 1").refused(Told.INDEX, "removeRule 5 0");
        y.due(3, "removeRule 4 0").refused(Told.INDEX, "removeRule 4 0").due(0, "rules 4");
        Told.sentence("Removes a rule of a flag; those behind it have one less.");
        Told full = Told.withAll().doesForAll("addRule 6 0 1 #", 1, 4).does("addRule 6 4 0 9");
        full.due(4, "ruleFor 19 6").due(4, "removeRule 6 0").due(3, "ruleFor 19 6").due(1, "removeRule 6 2");
        full.due(2, "ruleFor 19 6").due(9, "removeRule 6 2").due(Told.NONE, "ruleFor 19 6").due(2, "rules 6");
        full.refused(Told.INDEX, "removeRule 6 2").due(2, "removeRule 6 1").due(3, "removeRule 6 0");
    }

    private static void outcomes() {
        Told.sentence("an outcome: 0 to 3 for that variant, 4 to 9 for the trials 0 to 5");
        Told x = Told.withAll();
        for (int trial = 0; trial < 6; trial++) {
            x.does("setShares " + trial + " 0 " + (trial % 2) + " 0 " + (1 - trial % 2));
        }
        for (int outcome = 0; outcome <= 9; outcome++) {
            int variant = outcome < 4 ? outcome : outcome % 2 == 0 ? 3 : 1;
            x.does("addRule 2 0 0 " + outcome).due(variant, "view 0 2").due(20, "reach 2 " + variant);
            x.due(outcome, "removeRule 2 0");
        }
        x.refused(Told.ARGUMENT, "addRule 2 0 0 -1").refused(Told.ARGUMENT, "addRule 2 0 0 10");
        for (int trial = 0; trial < 6; trial++) {
            Told y = Told.withAll().does("addRule 7 0 0 " + (4 + trial), "stop " + trial + " 2").due(2, "view 9 7");
            y.does("beginAnew " + trial, "show 9 7").due(0, "kept " + trial + " 9");
            y.due(Told.NONE, "kept " + (trial + 1) % 6 + " 9");
        }
    }

    private static void decidingRule() {
        Told.sentence("the first of its rules whose audience the person is in decides. If there is none, it is 0.");
        Told x = new Told().does("setTag 19 1 1").define(5, "t1").define(0, "*");
        x.due(0, "view 19 0").due(Told.NONE, "ruleFor 19 0").doesForAll("addRule 0 0 5 #", 1, 3);
        x.due(0, "view 18 0").due(Told.NONE, "ruleFor 18 0").due(3, "view 19 0").due(0, "ruleFor 19 0");
        x.does("addRule 0 3 0 2", "addRule 0 4 5 1").due(2, "view 18 0").due(3, "ruleFor 18 0").due(3, "view 19 0");
        x.does("addRule 1 0 1 1", "addRule 1 1 2 1", "addRule 1 2 3 1", "addRule 1 3 4 1", "addRule 1 4 0 3");
        x.due(4, "ruleFor 0 1").due(3, "view 0 1").does("removeRule 1 4").due(Told.NONE, "ruleFor 0 1");
        x.due(0, "view 0 1");
        Told.sentence("the rule of a flag that decides for a person, held or not, and whether it needs other flags or not");
        x.does("hold 18 0").due(3, "ruleFor 18 0").does("setNeed 0 7 1").due(3, "ruleFor 18 0").due(3, "ruleFor 17 0");
        x.due(0, "view 17 0").due(0, "ruleFor 19 0").due(0, "view 19 0").does("removeRule 0 3", "removeRule 0 0");
        x.due(Told.NONE, "ruleFor 18 0").due(2, "view 18 0").due(0, "ruleFor 19 0");
        Told zero = Told.withAll().does("addRule 0 0 0 0", "addRule 0 1 0 3").due(0, "ruleFor 0 0").due(0, "view 0 0");
        zero.sameByLog();
    }

    // ---- needs

    private static void needsInALoop() {
        Told.sentence("no flag needs itself, over others or not / other: 0 to 7, another flag");
        Told x = new Told();
        for (int flag = 0; flag < 8; flag++) {
            x.refused(Told.ARGUMENT, "setNeed " + flag + " " + flag + " 1");
            x.refused(Told.ARGUMENT, "setNeed " + flag + " " + flag + " 0");
        }
        for (int step : new int[] {1, 7}) {
            Told chain = new Told();
            for (int i = 0; i < 7; i++) {
                chain.due(false, "setNeed " + i * step % 8 + " " + (i + 1) * step % 8 + " 1");
            }
            int last = 7 * step % 8;
            for (int i = 0; i < 7; i++) {
                chain.refused(Told.STATE, "setNeed " + last + " " + i * step % 8 + " 1");
                chain.due(false, "setNeed " + last + " " + i * step % 8 + " 0");
            }
            chain.due(false, "setNeed 0 " + last + " 1").due(true, "setNeed 0 " + step + " 1");
            chain.due(true, "setNeed 0 " + step + " 0").refused(Told.STATE, "setNeed " + last + " 0 1");
            chain.due(true, "setNeed 0 " + last + " 0").due(false, "setNeed " + last + " 0 1");
            chain.refused(Told.STATE, "setNeed 0 " + step + " 1");
        }
        Told.sentence("ISE if, with does true, some flag would need itself");
        Told two = new Told().due(false, "setNeed 7 0 1").due(false, "setNeed 0 7 0").refused(Told.STATE, "setNeed 0 7 1");
        two.due(true, "setNeed 7 0 1").due(true, "setNeed 7 0 0").due(false, "setNeed 7 0 0").due(false, "setNeed 0 7 1");
        Told all = new Told();
        for (int flag = 1; flag < 8; flag++) {
            for (int other = 0; other < flag; other++) {
                all.due(false, "setNeed " + flag + " " + other + " 1");
            }
        }
        all.refused(Told.STATE, "setNeed 0 1 1").refused(Told.STATE, "setNeed 6 7 1").due(true, "setNeed 7 6 1");
    }

    private static void viewsThatNeedOthers() {
        Told.sentence("if the person has the view 0 of a flag that it needs, it is 0");
        Told x = new Told().does("setTag 4 0 1").define(1, "t0").define(0, "*").does("addRule 7 0 0 3", "setNeed 7 0 1");
        x.due(0, "view 4 7").due(20, "reach 7 0").does("addRule 0 0 1 1").due(3, "view 4 7").due(0, "view 5 7");
        x.due(1, "reach 7 3").due(19, "reach 7 0").does("setNeed 7 6 1").due(0, "view 4 7");
        x.does("addRule 6 0 0 2").due(3, "view 4 7").does("addRule 6 0 0 0").due(0, "view 4 7");
        x.does("setNeed 7 6 0").due(3, "view 4 7").due(0, "view 5 7").does("setNeed 7 0 0").due(20, "reach 7 3");
        x.sameByLog();
        for (int step : new int[] {1, 7}) {
            Told chain = Told.withAll().doesForAll("addRule # 0 0 1", 0, 7);
            for (int i = 0; i < 7; i++) {
                chain.does("setNeed " + i * step % 8 + " " + (i + 1) * step % 8 + " 1");
            }
            int end = 7 * step % 8;
            chain.dueForAll(20, "reach # 1", 0, 7).does("removeRule " + end + " 0").dueForAll(20, "reach # 0", 0, 7);
            chain.does("hold 3 0", "addRule " + end + " 0 0 2").due(19, "reach 0 1").due(20, "reach " + end + " 2");
            chain.due(0, "view 3 0").due(1, "view 3 " + step);
        }
    }

    private static void heldViewsAreAskedFirst() {
        Told.sentence("The view: if it is held, it is what it was frozen to");
        Told x = Told.withAll().does("addRule 0 0 0 3", "addRule 1 0 0 2", "hold 19 0", "hold 0 1", "setNeed 0 1 1");
        x.does("removeRule 1 0").due(3, "view 19 0").due(0, "view 18 0").due(2, "view 0 1").due(3, "view 0 0");
        x.does("hold 18 0", "addRule 1 0 0 1").due(0, "view 18 0").due(18 + 1, "reach 0 3").due(1, "reach 0 0");
        x.does("removeRule 0 0", "addRule 0 0 0 1").due(3, "view 19 0").due(0, "view 18 0").due(1, "view 17 0");
        x.sameByLog();
    }

    // ---- reach

    private static void reaches() {
        Told.sentence("Returns how many persons have a variant as their view of a flag.");
        Told x = Told.withAll().dueForAll(20, "reach # 0", 0, 7).dueForAll(0, "reach 0 #", 1, 3);
        for (int variant = 1; variant < 4; variant++) {
            x.does("addRule 5 0 0 " + variant).due(20, "reach 5 " + variant).due(0, "reach 5 0");
        }
        x.does("hold 0 5", "addRule 5 0 0 0").due(19, "reach 5 0").due(1, "reach 5 3").due(0, "reach 5 2");
        x.refused(Told.ARGUMENT, "reach 5 4").refused(Told.ARGUMENT, "reach 5 -1").refused(Told.ARGUMENT, "reach 8 0");
    }

    // ---- showing

    private static void shownByATrial() {
        Told.sentence("If it is not held, and a rule with a trial decides, so that no flag that it needs has the view 0");
        Told held = Told.withTrial().does("hold 2 0").due(3, "show 2 0").due(Told.NONE, "kept 0 2");
        held.due(3, "shownLast 2 0").due(0, "holdTrial 0");
        Told variant = Told.withTrial().does("addRule 0 0 0 3").due(3, "show 2 0").due(Told.NONE, "kept 0 2");
        variant.due(0, "holdTrial 0");
        Told none = Told.withTrial().define(0, "!*").due(0, "show 2 0").due(Told.NONE, "kept 0 2").due(0, "holdTrial 0");
        none.due(0, "shownLast 2 0");
        Told needs = Told.withTrial().does("setNeed 0 7 1").due(0, "show 2 0").due(Told.NONE, "kept 0 2");
        needs.due(0, "shownLast 2 0").due(0, "holdTrial 0").does("releaseTrial 0", "addRule 7 0 0 1");
        needs.due(3, "show 2 0").due(3, "kept 0 2").due(1, "holdTrial 0");
        Told two = Told.withTrial().does("setNeed 0 7 1", "setNeed 0 1 1", "addRule 1 0 0 1").due(0, "show 2 0");
        two.due(Told.NONE, "kept 0 2").does("hold 2 7").due(0, "show 2 0").does("addRule 7 0 0 1").due(0, "show 2 0");
        two.due(Told.NONE, "kept 0 2").does("release 2 7").due(3, "show 2 0").due(3, "kept 0 2");
        Told heldNeed = Told.withTrial().does("setNeed 0 7 1", "addRule 7 0 0 1", "hold 2 7", "removeRule 7 0");
        heldNeed.due(3, "show 2 0").due(3, "kept 0 2").due(0, "show 3 0").due(Told.NONE, "kept 0 3");
        heldNeed.sameByLog();
    }

    private static void shownThoughAFlagIsNeeded() {
        Told.sentence("no flag that it needs has the view 0, it is shown by this trial");
        for (int needed : new int[] {0, 3, 7}) {
            int flag = (needed + 1) % 8;
            String[] rules = {"addRule " + flag + " 0 0 9", "stop 5 2", "beginAnew 5", "setShares 5 0 0 0 1"};
            Told x = Told.withAll().does(rules).does("setNeed " + flag + " " + needed + " 1");
            x.due(0, "show 4 " + flag).due(Told.NONE, "kept 5 4").due(0, "holdTrial 5").does("releaseTrial 5");
            x.does("addRule " + needed + " 0 0 1").due(3, "show 4 " + flag).due(3, "kept 5 4").due(1, "holdTrial 5");
            x.sameByLog();
        }
    }

    private static void keptFromNowOn() {
        Told.sentence("if the trial is not stopped, and keeps none for the person, it keeps this variant from now on");
        Told x = Told.withTrial().due(Told.NONE, "kept 0 1").due(0, "show 1 0").due(0, "kept 0 1").due(3, "show 2 0");
        x.does("setShares 0 0 1 0 0").due(0, "show 1 0").due(3, "show 2 0").due(0, "kept 0 1").due(3, "kept 0 2");
        x.due(1, "show 0 0").does("setShares 0 0 0 0 0", "setSalt 0 1000").due(1, "arm 0 0").due(0, "arm 0 3");
        x.due(3, "view 2 0").sameByLog();
        Told.sentence("if the trial is stopped, it keeps none, but it is shown by it");
        Told stopped = Told.withTrial().does("stop 0 2").due(2, "show 2 0").due(Told.NONE, "kept 0 2");
        stopped.due(1, "holdTrial 0").due(true, "isHeld 2 0").does("releaseTrial 0", "beginAnew 0").due(3, "view 2 0");
        Told.sentence("a trial keeps one variant for a person, over all flags");
        Told flags = Told.withTrial().does("addRule 7 0 0 4", "show 2 0", "setShares 0 1 0 0 0").due(3, "show 2 7");
        flags.due(3, "kept 0 2").due(2, "holdTrial 0").sameByLog();
        Told zero = Told.withAll().does("addRule 0 0 0 4").due(0, "show 19 0").due(0, "kept 0 19");
        zero.does("setShares 0 0 0 0 9").due(0, "view 19 0").due(3, "view 18 0").due(0, "viewByLog 19 0");
    }

    private static void fullLogForShow() {
        Told.sentence("show: IllegalStateException if the log has 400 entries");
        Told x = Told.withTrial().fillLog(399).due(3, "show 2 0").due(400, "entries").refused(Told.STATE, "show 1 0");
        x.refused(Told.STATE, "show 2 0").refused(Told.STATE, "show 19 7").due(3, "kept 0 2").due(3, "view 2 0");
        x.due(Told.NONE, "kept 0 1").sameByLog();
    }

    // ---- views by the log

    private static void viewsByLog() {
        Told.sentence("Returns the same, with what trials keep and what is held found from the log.");
        Told x = new Told().sameByLog();
        x = Told.withTrial().does("addRule 1 0 0 5", "setShares 1 0 1 1 1", "setNeed 1 2 1", "addRule 2 0 0 4").sameByLog();
        String[] calls = {"show 2 0", "show 1 0", "show 1 1", "show 19 1", "hold 3 0", "hold 1 2", "setShares 0 0 5 0 0",
            "holdTrial 0", "show 5 0", "release 1 2", "hold 2 0", "stop 1 3", "show 6 1", "releaseTrial 0", "holdTrial 1",
            "setSalt 0 9", "release 2 0", "addRule 0 0 0 2", "show 2 0", "holdTrial 0", "releaseTrial 1", "beginAnew 1",
            "show 19 1", "setShares 1 0 0 0 3", "releaseTrial 0", "stop 0 0", "beginAnew 0", "removeRule 0 0", "holdTrial 1"};
        for (String call : calls) {
            x.does(call).sameByLog();
        }
        x.fillLog(400).sameByLog().changesNothing("viewByLog 2 0").changesNothing("viewByLog 19 1");
    }

    public static void main(String[] args) {
        fullRuleList();
        places();
        outcomes();
        decidingRule();
        needsInALoop();
        viewsThatNeedOthers();
        heldViewsAreAskedFirst();
        reaches();
        shownByATrial();
        shownThoughAFlagIsNeeded();
        keptFromNowOn();
        fullLogForShow();
        viewsByLog();
        Told.end();
    }
}
