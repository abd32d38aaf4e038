/** The edges that the document names for holds and the log, promises 26 to 32: a test a sentence. */
public final class HoldEdgesTest {
    private static final String[] ENTERING = {"show 3 0", "hold 3 0", "release 2 1", "holdTrial 0", "releaseTrial 1",
        "beginAnew 2"};

    // ---- holds of a view

    private static void holds() {
        Told.sentence("When a view is held first, it is frozen to what it is then; Returns to what it is frozen.");
        Told x = Told.withAll();
        for (int variant = 0; variant < 4; variant++) {
            x.does("addRule 4 0 0 " + variant).due(variant, "hold " + variant + " 4").due(true, "isHeld " + variant + " 4");
        }
        for (int variant = 0; variant < 4; variant++) {
            x.due(variant, "view " + variant + " 4").due(variant, "viewByLog " + variant + " 4");
        }
        x.due(3, "view 5 4").due(false, "isHeld 5 4").due(false, "isHeld 0 3").due(0, "hold 19 7").due(3, "hold 19 4");
        x.due(0, "hold 0 0").due(false, "isHeld 19 0").due(false, "isHeld 18 7").due(Told.NONE, "shownLast 0 4");
        Told.sentence("hold: IllegalStateException if it is held by itself, or the log has 400 entries");
        x.refused(Told.STATE, "hold 0 4").refused(Told.STATE, "hold 3 4").refused(Told.STATE, "hold 19 7");
        x.does("release 0 4").due(3, "hold 0 4").refused(Told.STATE, "hold 0 4").sameByLog();
        Told.sentence("Holds a view, with neither showing nor keeping anything");
        Told arms = Told.withTrial().due(3, "hold 2 0").due(Told.NONE, "kept 0 2").due(Told.NONE, "shownLast 2 0");
        arms.due(0, "holdTrial 0").does("releaseTrial 0", "setShares 0 1 0 0 0").due(3, "view 2 0").due(0, "release 2 0");
    }

    private static void heldByATrialThenByItself() {
        Told.sentence("it stays frozen to that until nothing holds it");
        Told x = Told.withTrial().does("show 2 0", "addRule 0 0 0 1").due(1, "holdTrial 0").due(3, "hold 2 0");
        x.refused(Told.STATE, "hold 2 0").due(0, "releaseTrial 0").due(3, "view 2 0").due(true, "isHeld 2 0");
        x.due(1, "release 2 0").due(false, "isHeld 2 0").due(1, "hold 2 0").due(1, "holdTrial 0").due(1, "view 2 0");
        x.due(1, "release 2 0").due(true, "isHeld 2 0").due(1, "releaseTrial 0").due(false, "isHeld 2 0");
        x.due(1, "holdTrial 0").due(3, "view 2 0").does("removeRule 0 0").due(3, "hold 2 0").sameByLog();
        Told three = Told.withTrial().does("show 2 0", "removeRule 0 0", "addRule 0 0 0 5", "show 2 0", "removeRule 0 0");
        three.does("addRule 0 0 0 6", "stop 2 2", "show 2 0", "addRule 0 0 0 1").due(1, "holdTrial 2").due(1, "holdTrial 0");
        three.due(1, "holdTrial 1").due(2, "hold 2 0").due(0, "releaseTrial 2").due(2, "view 2 0").due(2, "release 2 0");
        three.due(0, "releaseTrial 1").due(2, "view 2 0").sameByLog().due(1, "releaseTrial 0").due(1, "view 2 0");
        three.sameByLog();
    }

    private static void releases() {
        Told.sentence("Releases a view that is held by itself; trials may still hold it. Returns the view then.");
        Told x = Told.withTrial().does("hold 2 0", "setShares 0 0 1 0 0").due(1, "release 2 0").due(2, "entries");
        x.does("show 4 0", "holdTrial 0", "addRule 0 0 0 2").due(1, "hold 4 0").due(1, "release 4 0");
        x.due(true, "isHeld 4 0").due(1, "view 4 0").due(1, "releaseTrial 0").due(2, "view 4 0").due(1, "shownLast 4 0");
        x.does("hold 4 0", "setNeed 0 7 1").due(2, "view 4 0").due(0, "release 4 0").sameByLog();
        Told.sentence("release: ISE if it is not held by itself, or the log has 400 entries");
        x.refused(Told.STATE, "release 4 0").refused(Told.STATE, "release 0 7").refused(Told.STATE, "release 19 0");
        Told trial = Told.withTrial().does("show 2 0", "holdTrial 0").refused(Told.STATE, "release 2 0");
        trial.does("hold 3 0").refused(Told.STATE, "release 2 0").refused(Told.STATE, "release 3 1");
        trial.refused(Told.STATE, "release 4 0").does("release 3 0").refused(Told.STATE, "release 3 0");
    }

    // ---- holds of a trial

    private static void holdsOfATrial() {
        Told.sentence("it holds each view in which the flag was shown to the person by this trial since it was begun last");
        Told x = Told.withTrial().does("addRule 1 0 0 4", "addRule 2 0 0 5").due(0, "holdTrial 0").due(1, "entries");
        x.refused(Told.STATE, "holdTrial 0").due(0, "releaseTrial 0").does("show 2 0", "show 2 0", "show 2 1", "show 3 0");
        x.does("show 2 2", "show 2 7", "hold 5 0", "show 5 0").due(3, "holdTrial 0").due(true, "isHeld 2 0");
        x.due(true, "isHeld 2 1").due(true, "isHeld 3 0").due(false, "isHeld 2 2").due(false, "isHeld 3 1");
        x.due(false, "isHeld 2 7").due(1, "holdTrial 1").due(true, "isHeld 2 2").does("release 5 0");
        x.due(false, "isHeld 5 0").due(3, "releaseTrial 0").does("beginAnew 0").due(0, "holdTrial 0").sameByLog();
        Told.sentence("those that were not held are frozen to the variant that was shown last so");
        Told last = Told.withTrial().does("show 2 0", "stop 0 1", "show 2 0", "stop 0 2", "addRule 0 0 0 0", "show 2 0");
        last.does("show 3 0").due(1, "holdTrial 0").due(1, "view 2 0").due(0, "shownLast 2 0").due(false, "isHeld 3 0");
        last.due(1, "show 2 0").due(1, "shownLast 2 0").due(3, "kept 0 2").sameByLog();
        Told zero = Told.withTrial().does("show 1 0", "addRule 0 0 0 3").due(1, "holdTrial 0").due(0, "view 1 0");
        zero.due(true, "isHeld 1 0").due(0, "viewByLog 1 0").due(19, "reach 0 3");
        Told.sentence("those that were held stay frozen to what they were");
        Told held = Told.withTrial().does("show 2 0", "addRule 0 0 0 1", "hold 2 0").due(1, "holdTrial 0").due(1, "view 2 0");
        held.due(1, "release 2 0").due(1, "view 2 0").due(1, "releaseTrial 0").sameByLog();
    }

    private static void holdsOfAllViews() {
        Told.sentence("Returns how many views it holds.");
        Told x = Told.withAll().doesForAll("addRule # 0 0 9", 0, 7).does("stop 5 3");
        for (int flag = 0; flag < 8; flag++) {
            x.doesForAll("show # " + flag, 0, 19);
        }
        x.does("beginAnew 5").due(0, "holdTrial 5").due(0, "releaseTrial 5").does("stop 5 3");
        for (int flag = 0; flag < 8; flag++) {
            x.doesForAll("show # " + flag, 0, 19);
        }
        x.due(160, "holdTrial 5").does("removeRule 0 0").due(20, "reach 0 3").due(160, "releaseTrial 5");
        x.due(0, "reach 0 3").due(160, "holdTrial 5").due(20, "reach 0 3").does("hold 0 0", "hold 19 7");
        x.due(158, "releaseTrial 5").due(1, "reach 0 3").sameByLog();
    }

    private static void whileATrialIsHeld() {
        Told.sentence("While it is held, it cannot be stopped or begun anew; what is shown by it meanwhile is not held");
        for (int trial = 0; trial < 6; trial++) {
            Told x = Told.withAll().does("addRule 0 0 0 " + (4 + trial), "show 2 0").due(1, "holdTrial " + trial);
            x.refused(Told.STATE, "stop " + trial + " 0").refused(Told.STATE, "beginAnew " + trial);
            x.refused(Told.STATE, "setShares " + trial + " 0 0 0 0").refused(Told.STATE, "setSalt " + trial + " 0");
            x.refused(Told.STATE, "holdTrial " + trial).refused(Told.STATE, "releaseTrial " + (trial + 1) % 6);
            x.does("show 3 0").due(false, "isHeld 3 0").due(0, "kept " + trial + " 3").due(1, "releaseTrial " + trial);
            x.due(2, "holdTrial " + trial).due(true, "isHeld 3 0").due(2, "releaseTrial " + trial);
            x.refused(Told.STATE, "releaseTrial " + trial).does("stop " + trial + " 1", "beginAnew " + trial);
        }
    }

    private static void releasesOfATrial() {
        Told.sentence("When it is released, it holds none. Returns how many views are not held any more by that.");
        Told x = Told.withTrial().does("show 0 0", "show 2 0", "show 19 0").due(0, "holdTrial 1").due(0, "releaseTrial 1");
        x.refused(Told.STATE, "releaseTrial 0").due(3, "holdTrial 0").due(3, "releaseTrial 0").due(7, "entries");
        x.refused(Told.STATE, "releaseTrial 0").due(false, "isHeld 0 0").due(false, "isHeld 19 0");
        x.does("holdTrial 0", "hold 0 0", "hold 5 0").due(2, "releaseTrial 0").due(true, "isHeld 0 0");
        x.due(true, "isHeld 5 0").does("hold 2 0", "hold 19 0", "holdTrial 0").due(0, "releaseTrial 0").sameByLog();
        Told two = Told.withTrial().does("show 2 0", "show 3 0", "removeRule 0 0", "addRule 0 0 0 5", "show 2 0");
        two.due(2, "holdTrial 0").due(1, "holdTrial 1").due(1, "releaseTrial 0").due(true, "isHeld 2 0");
        two.due(false, "isHeld 3 0").due(3, "view 2 0").due(1, "releaseTrial 1").due(0, "view 2 0").sameByLog();
    }

    private static void isHeld() {
        Told.sentence("Tells whether a view is held, by itself or by a trial.");
        for (int trial = 0; trial < 6; trial++) {
            Told x = Told.withAll().does("addRule 7 0 0 " + (4 + trial), "show 19 7").due(false, "isHeld 19 7");
            x.does("holdTrial " + trial).due(true, "isHeld 19 7").due(false, "isHeld 18 7").due(false, "isHeld 19 6");
            x.does("hold 19 7").due(true, "isHeld 19 7").does("releaseTrial " + trial).due(true, "isHeld 19 7");
            x.does("release 19 7").due(false, "isHeld 19 7");
        }
    }

    // ---- the log

    /** A house in which each of the entering calls may be made. */
    private static Told readyToEnter() {
        return Told.withTrial().does("addRule 1 0 0 5", "show 2 1", "hold 2 1", "holdTrial 1", "show 4 0");
    }

    private static void entries() {
        Told.sentence("Each showing, each hold and release of a view, of a trial, and each beginning anew is an entry");
        Told x = readyToEnter().due(4, "entries");
        for (int i = 0; i < ENTERING.length; i++) {
            x.does(ENTERING[i]).due(5 + i, "entries");
        }
        Told.sentence("what is no entry of the log");
        x.does("setAttribute 0 1 5", "setTag 0 0 1", "type 5 42", "set 5", "type 5 42", "erase 5 1", "addRule 0 0 5 1");
        x.does("removeRule 0 0", "setNeed 0 3 1", "setNeed 0 3 0", "setShares 3 1 1 1 1", "setSalt 3 1", "stop 3 1");
        x.does("view 0 0", "viewByLog 0 0", "wouldMove 5", "arm 0 0", "kept 0 0", "reach 0 0", "shownLast 0 0");
        x.due(10, "entries").refused(Told.STATE, "holdTrial 0").refused(Told.ARGUMENT, "show 20 0").due(10, "entries");
    }

    private static void fullLog() {
        Told.sentence("at most 400 are made");
        for (String last : ENTERING) {
            Told x = readyToEnter().fillLog(399).does(last).due(400, "entries");
            Told full = readyToEnter().fillLog(400).due(400, "entries").refused(Told.STATE, last).due(400, "entries");
            for (String refused : ENTERING) {
                x.refused(Told.STATE, refused);
            }
            x.due(400, "entries").sameByLog();
            full.sameByLog();
        }
        Told.sentence("a full log stops no other call");
        Told x = readyToEnter().fillLog(400).due(0, "setAttribute 0 1 5").due(false, "setTag 0 0 1").due(2, "type 0 124");
        x.due(1, "erase 0 1").due(0, "set 0").due(0, "wouldMove 0").due(2, "addRule 0 0 0 1").due(1, "removeRule 0 0");
        x.due(false, "setNeed 0 3 1").due(true, "setNeed 0 3 0").due(4, "setShares 0 0 0 0 1").due(0, "setSalt 0 5");
        x.due(3, "view 5 0").due(1, "arm 0 4").due(1, "kept 0 4").due(20, "stop 2 1").due(1, "shownLast 4 0");
        x.due(true, "isHeld 2 1").due(400, "entries").sameByLog();
    }

    private static void lastShown() {
        Told.sentence("the variant of a flag that was shown to a person last; NONE if none was");
        Told x = Told.withTrial().due(Told.NONE, "shownLast 1 0").due(0, "show 1 0").due(0, "shownLast 1 0");
        x.due(Told.NONE, "shownLast 1 1").due(Told.NONE, "shownLast 2 0").does("addRule 0 0 0 3", "show 1 0");
        x.due(3, "shownLast 1 0").does("hold 1 0", "addRule 0 0 0 2").due(3, "show 1 0").due(3, "shownLast 1 0");
        x.does("release 1 0", "holdTrial 0").due(3, "shownLast 1 0").due(0, "show 1 0").due(0, "shownLast 1 0");
        x.does("releaseTrial 0", "hold 1 0", "release 1 0").due(0, "shownLast 1 0").does("beginAnew 0");
        x.due(0, "shownLast 1 0").due(0, "show 19 7").due(0, "shownLast 19 7").due(Told.NONE, "shownLast 18 7");
    }

    private static void lastCall() {
        Told.sentence("An object is used for at most 512 calls after it has been made");
        // 16 calls ahead of the log, then its 398 entries more, and 98 views: 512 in all.
        String[] ahead = {"type 0 42", "set 0", "addRule 0 0 0 4", "setShares 0 1 1 1 1", "setSalt 0 0", "type 1 42",
            "erase 1 1", "setTag 3 3 1", "setAttribute 3 1 1", "setNeed 1 0 1", "rules 0", "fault 0", "sign 0 0", "entries",
            "show 2 0", "hold 2 0"};
        for (String last : new String[] {"viewByLog 2 0", "shownLast 2 0", "arm 0 2"}) {
            Told x = new Told().does(ahead);
            for (int i = 0; i < 398; i++) {
                x.does("show 19 7");
            }
            for (int i = 0; i < 97; i++) {
                x.due(3, "viewByLog 2 0");
            }
            x.due(3, last);
        }
    }

    public static void main(String[] args) {
        holds();
        heldByATrialThenByItself();
        releases();
        holdsOfATrial();
        holdsOfAllViews();
        whileATrialIsHeld();
        releasesOfATrial();
        isHeld();
        entries();
        fullLog();
        lastShown();
        lastCall();
        Told.end();
    }
}
