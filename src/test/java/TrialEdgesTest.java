/** The edges that the document names for trials, promises 20 to 25: a test a sentence. */
public final class TrialEdgesTest {
    // ---- shares and salts

    private static void shares() {
        Told.sentence("A trial has a share of each variant, 0 to 100, all 0 at first");
        for (int trial = 0; trial < 6; trial++) {
            Told x = new Told();
            x.due(0, "setShares " + trial + " 100 100 100 100").due(400, "setShares " + trial + " 100 0 0 0");
            x.due(100, "setShares " + trial + " 0 100 0 0").due(100, "setShares " + trial + " 0 0 100 0");
            x.due(100, "setShares " + trial + " 0 0 0 100").due(100, "setShares " + trial + " 1 2 4 8");
            for (String bad : new String[] {"101", "-1"}) {
                x.refused(Told.ARGUMENT, "setShares " + trial + " " + bad + " 0 0 0");
                x.refused(Told.ARGUMENT, "setShares " + trial + " 0 " + bad + " 0 0");
                x.refused(Told.ARGUMENT, "setShares " + trial + " 0 0 " + bad + " 0");
                x.refused(Told.ARGUMENT, "setShares " + trial + " 0 0 0 " + bad);
            }
            x.due(15, "setShares " + trial + " 0 0 0 0").due(0, "setShares " + trial + " 0 0 0 0");
            x.due(0, "setShares " + (trial + 1) % 6 + " 0 0 0 0");
        }
        Told.sentence("a salt, 0 at first / salt: 0 to 1000");
        for (int trial = 0; trial < 6; trial++) {
            Told x = new Told().due(0, "setSalt " + trial + " 1000").due(1000, "setSalt " + trial + " 999");
            x.refused(Told.ARGUMENT, "setSalt " + trial + " 1001").refused(Told.ARGUMENT, "setSalt " + trial + " -1");
            x.due(999, "setSalt " + trial + " 0").due(0, "setSalt " + trial + " 1");
            x.due(0, "setSalt " + (trial + 1) % 6 + " 0").due(0, "entries");
        }
    }

    private static void sharesAndSaltStayWhileHeld() {
        Told.sentence("ISE if the trial is held / While it is held, its shares and its salt stay");
        Told x = Told.withTrial().does("setSalt 0 4", "holdTrial 0").refused(Told.STATE, "setShares 0 0 0 0 0");
        x.refused(Told.STATE, "setShares 0 1 1 1 1").refused(Told.STATE, "setSalt 0 0").refused(Told.STATE, "setSalt 0 4");
        x.due(0, "setShares 1 5 0 0 0").due(0, "setSalt 1 6").does("releaseTrial 0").due(4, "setShares 0 0 2 0 0");
        x.due(4, "setSalt 0 0").does("hold 0 0").due(2, "setShares 0 1 0 0 0").due(0, "setSalt 0 3");
    }

    private static void keptArmsStay() {
        Told.sentence("Sets the shares of a trial; arms that it keeps stay / the salt");
        Told x = Told.withTrial().does("show 2 0", "show 1 0", "setShares 0 0 1 0 0").due(3, "arm 0 2").due(0, "arm 0 1");
        x.due(1, "arm 0 3").does("setShares 0 1 1 1 1", "setSalt 0 1").due(3, "arm 0 2").due(0, "arm 0 1");
        x.due(2, "arm 0 0").due(3, "arm 0 3").does("setShares 0 0 0 0 0").due(3, "arm 0 2").due(0, "arm 0 3");
    }

    // ---- arms

    private static void noShares() {
        Told.sentence("with s as the sum of the shares, 0 if s is 0");
        Told x = new Told().does("setSalt 3 1000").dueForAll(0, "arm 3 #", 0, 19);
        x.does("setShares 3 0 0 0 1").dueForAll(3, "arm 3 #", 0, 19).does("setShares 3 0 0 0 0").due(0, "arm 3 19");
    }

    private static void moreThanB() {
        Told.sentence("the first variant v for which the shares of 0 to v together are more than b");
        // For the person 0 and the salt 0, 13 is divided.
        String[] shares = {"14 0 0 86", "13 0 0 87", "13 1 0 86", "0 14 0 86", "0 13 0 87", "0 13 1 86", "0 0 14 86",
            "0 0 13 87", "6 7 1 86", "6 8 0 86", "5 4 4 87", "5 4 5 86", "0 0 0 100", "100 0 0 0", "14 0 0 0",
            "13 0 0 0", "0 13 0 0", "0 0 13 0", "0 0 0 13", "12 0 1 0", "0 1 0 12", "13 1 0 0", "0 13 0 1", "1 0 0 0",
            "0 1 0 0", "0 0 1 0", "6 0 0 6", "1 1 9 1", "100 100 100 100"};
        int[] due = {0, 3, 1, 1, 3, 2, 2, 3, 2, 1, 3, 2, 3, 0, 0, 0, 1, 2, 3, 0, 1, 1, 3, 0, 1, 2, 0, 1, 0};
        Told x = new Told();
        for (int i = 0; i < shares.length; i++) {
            x.does("setShares 5 " + shares[i]).due(due[i], "arm 5 0");
        }
    }

    private static void remainders() {
        Told.sentence("the remainder by s of the remainder by 1000003 of 7919 times the person, 104729 times the salt, and 13");
        Told x = new Told().does("setShares 0 1 1 1 1", "setSalt 0 9");
        // The person 7 stays below 1000003, the person 8 comes to 1005926, so to 5923.
        x.due(3, "arm 0 7").due(3, "arm 0 8");
        // 59000253 is 59 times 1000003, and 76; 15000017 is 14 times 1000003, and 999975.
        x.does("setSalt 0 562", "setShares 0 76 1 0 23").due(1, "arm 0 18").does("setShares 0 75 1 1 23").due(2, "arm 0 18");
        x.does("setSalt 0 143", "setShares 0 100 100 100 100").due(3, "arm 0 3");
        x.does("setShares 0 75 0 0 25").due(3, "arm 0 3").does("setShares 0 76 0 0 24").due(0, "arm 0 3");
        // With the most: 104879474 is 104 times 1000003, and 879162.
        x.does("setSalt 0 1000", "setShares 0 100 100 100 100").due(3, "arm 0 19").does("setShares 0 62 0 0 38");
        x.due(3, "arm 0 19").does("setShares 0 63 0 0 37").due(0, "arm 0 19");
        for (int salt : new int[] {0, 1, 9, 10, 500, 999, 1000}) {
            armsFor(salt, new int[] {100, 99, 98, 97});
            armsFor(salt, new int[] {0, 7, 0, 4});
            armsFor(salt, new int[] {1, 1, 1, 0});
        }
    }

    private static void armsFor(int salt, int[] shares) {
        Told x = new Told().does("setSalt 4 " + salt);
        x.does("setShares 4 " + shares[0] + " " + shares[1] + " " + shares[2] + " " + shares[3]);
        long sum = shares[0] + shares[1] + shares[2] + shares[3];
        for (int person = 0; person < 20; person++) {
            long b = (7919L * person + 104729L * salt + 13) % 1000003 % sum;
            int variant = 0;
            for (long together = shares[0]; together <= b; together += shares[variant]) {
                variant++;
            }
            x.due(variant, "arm 4 " + person);
        }
    }

    private static void stoppedArms() {
        Told.sentence("if it is stopped, the variant to which it was; otherwise the one that it keeps for the person");
        Told x = Told.withTrial().does("show 2 0", "stop 0 0").due(0, "arm 0 2").due(0, "arm 0 0").due(0, "view 2 0");
        x.does("stop 0 3").due(3, "arm 0 1").due(3, "view 1 0").does("setShares 0 0 0 0 0").due(3, "arm 0 1");
        x.due(0, "arm 1 1").due(3, "kept 0 2").does("beginAnew 0", "setShares 0 0 1 0 0").due(1, "arm 0 2");
    }

    // ---- stop

    private static void stops() {
        Told.sentence("Stops a trial, also one that is stopped. Returns for how many persons its arm becomes another.");
        Told x = Told.withTrial().due(15, "stop 0 0").due(0, "stop 0 0").due(20, "stop 0 3").due(0, "stop 0 3");
        x.due(20, "stop 0 0").due(0, "entries").due(20, "stop 5 1").due(0, "stop 4 0");
        x.refused(Told.ARGUMENT, "stop 0 4").refused(Told.ARGUMENT, "stop 0 -1").refused(Told.ARGUMENT, "stop 6 0");
        Told kept = Told.withTrial().does("show 2 0", "show 19 0", "setShares 0 0 1 0 0").due(1, "arm 0 0");
        // The arm that is kept for the person 19 is 2.
        kept.due(2, "stop 0 1").due(20, "stop 0 2").does("beginAnew 0").due(0, "stop 0 1");
        Told.sentence("stop: IllegalStateException if the trial is held");
        Told held = Told.withTrial().does("stop 0 1", "holdTrial 0").refused(Told.STATE, "stop 0 1");
        held.refused(Told.STATE, "stop 0 2").due(20, "stop 1 2").does("releaseTrial 0").due(20, "stop 0 2");
        Told.withTrial().does("holdTrial 0").refused(Told.STATE, "stop 0 0");
    }

    // ---- to begin anew

    private static void beginnings() {
        Told.sentence("Begins a trial anew. Returns for how many persons it kept an arm.");
        Told x = Told.withTrial().due(0, "beginAnew 0").due(1, "entries").does("show 0 0").due(1, "beginAnew 0");
        x.due(0, "beginAnew 0").doesForAll("show # 0", 0, 19).doesForAll("show # 0", 0, 19).due(20, "beginAnew 0");
        x.due(0, "beginAnew 0").dueForAll(Told.NONE, "kept 0 #", 0, 19).due(0, "beginAnew 5").due(47, "entries");
        Told.sentence("Returns for how many persons it kept an arm, also one of 0, also if it is stopped");
        Told zero = Told.withTrial().does("show 1 0", "show 2 0", "stop 0 1", "show 3 0").due(2, "beginAnew 0");
        Told.sentence("To begin a trial anew is to let it be stopped no more, and keep none");
        zero.due(1, "arm 0 0").due(2, "arm 0 3").due(Told.NONE, "kept 0 2").does("setShares 0 0 0 1 0").due(2, "arm 0 2");
        Told.sentence("that it was shown by it before is forgotten (shownLast() stays)");
        zero.due(3, "shownLast 2 0").due(1, "shownLast 3 0").due(0, "holdTrial 0").due(false, "isHeld 2 0").sameByLog();
        Told other = Told.withTrial().does("addRule 1 0 0 5", "show 2 0", "show 2 1", "stop 1 3").due(1, "beginAnew 0");
        other.due(0, "kept 1 2").due(3, "arm 1 2").due(1, "holdTrial 1").due(true, "isHeld 2 1").due(false, "isHeld 2 0");
        other.does("setShares 0 1 2 3 4", "beginAnew 0").due(10, "setShares 0 0 0 0 0").does("setSalt 0 8", "beginAnew 0");
        other.due(8, "setSalt 0 0").due(1, "rules 0");
    }

    private static void beginningsRefused() {
        Told.sentence("beginAnew: ISE if the trial is held, or the log has 400 entries");
        Told x = Told.withTrial().does("show 2 0", "stop 0 1", "holdTrial 0").refused(Told.STATE, "beginAnew 0");
        x.due(0, "beginAnew 1").due(1, "arm 0 2").due(3, "kept 0 2").does("releaseTrial 0").due(1, "beginAnew 0");
        Told full = Told.withTrial().does("show 2 0", "stop 0 1").fillLog(399).due(1, "beginAnew 0");
        full.due(400, "entries").does("stop 0 1").refused(Told.STATE, "beginAnew 0").refused(Told.STATE, "beginAnew 1");
        full.due(1, "arm 0 0").sameByLog();
    }

    // ---- what is kept

    private static void keptArms() {
        Told.sentence("the variant that a trial keeps for a person, stopped or not; NONE if it keeps none");
        Told x = Told.withTrial().dueForAll(Told.NONE, "kept 0 #", 0, 19).does("show 1 0", "show 0 0", "show 3 0", "show 2 0");
        x.due(1, "kept 0 0").due(0, "kept 0 1").due(3, "kept 0 2").due(2, "kept 0 3").due(Told.NONE, "kept 0 4");
        x.dueForAll(Told.NONE, "kept # 2", 1, 5).does("stop 0 1").due(3, "kept 0 2").due(0, "kept 0 1");
        x.does("show 2 0", "show 4 0").due(3, "kept 0 2").due(Told.NONE, "kept 0 4").does("holdTrial 0").due(3, "kept 0 2");
        x.does("show 6 0").due(Told.NONE, "kept 0 6").does("releaseTrial 0", "beginAnew 0").due(Told.NONE, "kept 0 2");
        Told meanwhile = Told.withTrial().does("holdTrial 0", "show 2 0").due(3, "kept 0 2").due(false, "isHeld 2 0");
        meanwhile.sameByLog();
    }

    public static void main(String[] args) {
        shares();
        sharesAndSaltStayWhileHeld();
        keptArmsStay();
        noShares();
        moreThanB();
        remainders();
        stoppedArms();
        stops();
        beginnings();
        beginningsRefused();
        keptArms();
        Told.end();
    }
}
