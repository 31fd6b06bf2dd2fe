/** Runs traced by hand from the section 'Terms', tick by tick. */
public final class TermsTest {
    private static final Due DUE = new Due();
    private static Mesh mesh;

    public static void main(String[] args) {
        twoNodesTickByTick();
        aFrameSentAgainIsReceivedOnce();
        anAcknowledgementForAnotherIsNotTaken();
        twoAtOnceAreNotHeard();
        aSolicitResetsTheRootsTimer();
        anOlderVersionResetsTheTimer();
        ofEqualSumsTheParentStays();
        ofEqualSumsTheLowestIsTaken();
        aFailureTakesNextsAway();
        aWithdrawalTakesTheOldWayAway();
        everySixtyFourTicksTheNumberGrows();
        anAdvertThatGivesNoRankIsCounted();
        oneThatDiedWasOnTheAir();
        DUE.end("TermsTest");
    }

    /** Ticks until node a has number due for what: whether it came so far. */
    private static boolean until(int a, int what, int due) {
        for (int i = 0; i < 400 && mesh.node(a, what) != due; i++) {
            mesh.tick(1);
        }
        return mesh.node(a, what) == due;
    }

    /** Ticks until all queues are empty and nothing is owed or listened for. */
    private static boolean settle() {
        for (int i = 0; i < 400; i++) {
            int open = 0;
            for (int a = 0; a < 7; a++) {
                open += mesh.node(a, 6) + (mesh.node(a, 11) > 1 ? 1 : 0);
            }
            if (open == 0) {
                return true;
            }
            mesh.tick(1);
        }
        return false;
    }

    /** Links are given as a, b, cost, a, b, cost .. */
    private static void settledMesh(int seed, int rise, int... links) {
        mesh = new Mesh(seed, rise, 9);
        for (int i = 0; i < links.length; i += 3) {
            mesh.link(links[i], links[i + 1], links[i + 2]);
        }
        mesh.tick(100);
        mesh.tick(100);
        mesh.tick(100);
        DUE.is("seed " + seed + " settles", settle(), true);
    }

    /** After one more tick, the named numbers of a node: what, due, what, due .. */
    private static void node(int a, int... whatAndDue) {
        for (int i = 0; i < whatAndDue.length; i += 2) {
            DUE.is("tick " + mesh.tick(0) + ": node(" + a + ", " + whatAndDue[i] + ")",
                mesh.node(a, whatAndDue[i]), whatAndDue[i + 1]);
        }
    }

    /** Seed 2 draws, modulo 32: 12 1 31 18 13 23 24 25 14 19 21. */
    private static void twoNodesTickByTick() {
        mesh = new Mesh(2, 30, 2);
        mesh.link(0, 1, 3);
        // The root's point is 2 + 12 % 2.
        mesh.tick(1);
        node(0, 3, 4, 4, 1, 6, 0);
        // Its ADVERT is queued, WAIT 1 % 4.
        mesh.tick(1);
        node(0, 4, 2, 6, 1, 7, 1);
        mesh.tick(1);
        node(0, 4, 3, 6, 1, 7, 0);
        DUE.is("tick 3: count(2)", mesh.count(2), 0);
        // On the air. Node 1: point 2 + 31 % 2; ANNOUNCE with WAIT 18 % 4. Root: point 4 + 13 % 4.
        mesh.tick(1);
        DUE.is("tick 4: count(2)", mesh.count(2), 1);
        DUE.is("tick 4: known(1, 0)", mesh.known(1, 0), 1);
        node(0, 3, 8, 4, 0, 6, 0);
        node(1, 0, 4, 1, 1, 2, 1, 3, 4, 4, 1, 5, 0, 6, 1, 7, 2, 10, 4, 12, 1);
        mesh.tick(1);
        node(1, 6, 1, 7, 1);
        // Node 1's clock is its point: an ADVERT behind the ANNOUNCE.
        mesh.tick(1);
        node(1, 4, 3, 6, 2, 7, 0, 11, 0);
        DUE.is("tick 6: next(0, 1)", mesh.next(0, 1), 0);
        // The ANNOUNCE is on the air; node 1's next interval has its point at 4 + 23 % 4.
        mesh.tick(1);
        DUE.is("tick 7: count(2)", mesh.count(2), 2);
        DUE.is("tick 7: next(0, 1)", mesh.next(0, 1), 2);
        node(0, 11, 3);
        node(1, 3, 8, 4, 0, 6, 2, 11, 2);
        // The acknowledgement; the ADVERT becomes the first, WAIT 24 % 4.
        mesh.tick(1);
        DUE.is("tick 8: count(2)", mesh.count(2), 2);
        node(0, 4, 4, 11, 0);
        node(1, 6, 1, 7, 0, 8, 0, 9, 0, 11, 0);
        // The root was on the air: node 1 waits 25 % 8. The root's ADVERT waits 14 % 4.
        mesh.tick(1);
        node(0, 4, 5, 6, 1, 7, 2);
        node(1, 6, 1, 7, 1, 8, 1);
        mesh.tick(1);
        node(0, 7, 1);
        node(1, 7, 0, 8, 1);
        // Node 1's ADVERT is on the air, and the root counts it.
        mesh.tick(1);
        DUE.is("tick 11: count(2)", mesh.count(2), 3);
        DUE.is("tick 11: known(0, 1)", mesh.known(0, 1), 4);
        node(0, 4, 7, 5, 1, 7, 0);
        node(1, 6, 0, 7, 0, 8, 0);
        // Node 1 was on the air: the root waits 19 % 8; a new interval, its point at 8 + 21 % 8.
        mesh.tick(1);
        node(0, 3, 16, 4, 0, 5, 0, 6, 1, 7, 3, 8, 1);
    }

    private static void aFrameSentAgainIsReceivedOnce() {
        settledMesh(6, 30, 0, 1, 2);
        mesh.send(1, 0, 5, 42);
        DUE.is("again: sent", until(1, 11, 2), true);
        DUE.is("again: delivered", mesh.delivered(0, -1), 1);
        mesh.link(0, 1, 0);
        mesh.tick(1);
        node(1, 6, 1, 9, 1, 11, 0);
        node(0, 11, 0);
        mesh.link(0, 1, 2);
        DUE.is("again: sent again", until(1, 11, 2), true);
        DUE.is("again: acknowledged again", mesh.node(0, 11), 3);
        DUE.is("again: not delivered again", mesh.delivered(0, -1), 1);
        mesh.tick(1);
        node(1, 9, 0, 11, 0);
        DUE.is("again: not dropped", mesh.count(0), 0);
        mesh.send(1, 0, 5, 42);
        mesh.tick(40);
        DUE.is("again: another frame with the same value", mesh.delivered(0, -1), 2);
    }

    /** Both 1 and 2 send a value to the root; whether they were on the air in the same tick. */
    private static boolean bothOnTheAir() {
        int frames = mesh.count(2);
        mesh.send(1, 0, 5, 1);
        mesh.send(2, 0, 5, 2);
        for (int i = 0; i < 10 && mesh.count(2) == frames; i++) {
            mesh.tick(1);
        }
        return mesh.count(2) == frames + 2 && mesh.node(1, 11) == 2 && mesh.node(2, 11) == 2;
    }

    private static void anAcknowledgementForAnotherIsNotTaken() {
        int found = 0;
        for (int seed = 0; seed < 60; seed++) {
            settledMesh(seed, 30, 0, 1, 2, 0, 2, 2);
            mesh.link(0, 1, 0);
            if (bothOnTheAir()) {
                found++;
                mesh.link(0, 1, 2);
                DUE.is("another's: the root owes", mesh.node(0, 11), 3);
                mesh.tick(1);
                DUE.is("another's: 1 tries again", mesh.node(1, 9), 1);
                DUE.is("another's: 2 is done", mesh.node(2, 9), 0);
                DUE.is("another's: delivered", mesh.delivered(0, 0), 2002);
            }
        }
        DUE.is("another's: found", found > 0, true);
    }

    private static void twoAtOnceAreNotHeard() {
        int found = 0;
        for (int seed = 0; seed < 60; seed++) {
            settledMesh(seed, 30, 0, 1, 2, 0, 2, 2);
            if (bothOnTheAir()) {
                found++;
                DUE.is("at once: the root owes nothing", mesh.node(0, 11), 0);
                mesh.tick(1);
                DUE.is("at once: 1 tries again", mesh.node(1, 9), 1);
                DUE.is("at once: 2 tries again", mesh.node(2, 9), 1);
                DUE.is("at once: none delivered", mesh.delivered(0, -1), 0);
            }
        }
        DUE.is("at once: found", found > 0, true);
    }

    private static void aSolicitResetsTheRootsTimer() {
        mesh = new Mesh(3, 30, 1);
        mesh.tick(15);
        node(1, 6, 0);
        mesh.tick(1);
        node(1, 6, 1);
        mesh.tick(100);
        mesh.tick(11);
        node(0, 3, 64);
        mesh.link(0, 1, 2);
        mesh.tick(1);
        node(1, 0, 255, 6, 1);
        DUE.is("solicit: on the air", until(1, 6, 0), true);
        node(0, 3, 4);
        mesh.tick(30);
        node(1, 0, 3);
        mesh.tick(100);
        DUE.is("solicit: none with a rank", mesh.node(1, 0), 3);
    }

    private static void anOlderVersionResetsTheTimer() {
        int found = 0;
        for (int seed = 0; seed < 20; seed++) {
            settledMesh(seed, 30, 0, 1, 2);
            mesh.link(0, 1, 0);
            mesh.repair();
            mesh.tick(100);
            mesh.link(0, 1, 2);
            int known = mesh.known(0, 1);
            for (int i = 0; i < 100 && mesh.node(1, 2) == 1; i++) {
                int interval = mesh.node(0, 3);
                mesh.tick(1);
                if (mesh.node(1, 2) == 1 && interval > 4 && mesh.node(0, 3) == 4) {
                    found++;
                    DUE.is("older: a new interval", mesh.node(0, 4), 1);
                    DUE.is("older: not counted", mesh.node(0, 5), 0);
                    DUE.is("older: nothing is noted", mesh.known(0, 1), known);
                }
            }
            DUE.is("older: the new version comes", until(1, 2, 2), true);
        }
        DUE.is("older: found", found > 0, true);
    }

    private static void ofEqualSumsTheParentStays() {
        settledMesh(4, 30, 0, 1, 1, 0, 2, 1, 2, 3, 1);
        node(3, 0, 3, 1, 3);
        mesh.link(1, 3, 1);
        mesh.tick(100);
        mesh.tick(100);
        DUE.is("equal: both are known", mesh.known(3, 1) + mesh.known(3, 2), 4);
        node(3, 0, 3, 1, 3, 12, 1 + 500 / 64);
    }

    private static void ofEqualSumsTheLowestIsTaken() {
        settledMesh(4, 30, 0, 1, 1, 0, 2, 1, 0, 4, 1, 1, 4, 3, 2, 4, 3);
        node(4, 0, 2, 1, 1);
        DUE.is("lowest: both are known", mesh.known(4, 1) + mesh.known(4, 2), 4);
        mesh.link(0, 4, 0);
        mesh.send(4, 0, 9, 9);
        DUE.is("lowest: the parent changes", until(4, 1, 2), true);
        node(4, 0, 5, 10, 2);
        DUE.is("lowest: the old rank is forgotten", mesh.known(4, 0), 0);
    }

    private static void aFailureTakesNextsAway() {
        settledMesh(5, 30, 0, 1, 1, 1, 2, 1, 0, 3, 1);
        DUE.is("failure: next(0, 2) before", mesh.next(0, 2), 2);
        mesh.kill(1);
        mesh.send(0, 2, 9, 9);
        for (int tries = 1; tries < 4; tries++) {
            DUE.is("failure: tries " + tries, until(0, 9, tries), true);
            DUE.is("failure: not yet", mesh.next(0, 2), 2);
        }
        mesh.tick(20);
        DUE.is("failure: DROPPED", mesh.count(0), 1);
        DUE.is("failure: next(0, 1)", mesh.next(0, 1), 0);
        DUE.is("failure: next(0, 2)", mesh.next(0, 2), 0);
        DUE.is("failure: another way stays", mesh.next(0, 3), 4);
        DUE.is("failure: the root's known ranks stay", mesh.known(0, 1), 2);
    }

    private static void aWithdrawalTakesTheOldWayAway() {
        settledMesh(7, 30, 0, 1, 2, 1, 2, 2, 2, 3, 1);
        DUE.is("withdrawal: next(1, 2) before", mesh.next(1, 2), 3);
        DUE.is("withdrawal: next(1, 3) before", mesh.next(1, 3), 3);
        mesh.link(0, 2, 1);
        DUE.is("withdrawal: a new parent", until(2, 1, 1), true);
        settle();
        DUE.is("withdrawal: next(1, 2)", mesh.next(1, 2), 0);
        DUE.is("withdrawal: next(1, 3)", mesh.next(1, 3), 0);
        DUE.is("withdrawal: next(0, 2)", mesh.next(0, 2), 3);
        DUE.is("withdrawal: next(0, 3)", mesh.next(0, 3), 3);
        DUE.is("withdrawal: next(0, 1)", mesh.next(0, 1), 2);
    }

    private static void everySixtyFourTicksTheNumberGrows() {
        mesh = new Mesh(11, 30, 2);
        mesh.link(0, 1, 1);
        mesh.tick(63);
        node(1, 12, 1);
        mesh.tick(1);
        node(1, 12, 2);
        DUE.is("number: queued", mesh.node(1, 6) > 0, true);
        mesh.tick(63);
        node(1, 12, 2);
        mesh.tick(1);
        node(1, 12, 3);
        node(2, 12, 0);
        node(0, 12, 0);
    }

    /** A node that never had a rank takes the version of an advert of rank 255, and counts it. */
    private static void anAdvertThatGivesNoRankIsCounted() {
        settledMesh(9, 0, 0, 1, 1);
        mesh.link(0, 1, 0);
        mesh.send(1, 0, 9, 9);
        DUE.is("no rank: 1 lost its own", until(1, 0, 255), true);
        mesh.link(1, 2, 1);
        DUE.is("no rank: the version", until(2, 2, 1), true);
        DUE.is("no rank: known(2, 1)", mesh.known(2, 1), 255);
        node(2, 0, 255, 1, 0, 3, 64, 4, 0, 5, 1);
    }

    /** 1 is on the air and then dies; 2, linked with it and done waiting, finds the air busy. */
    private static void oneThatDiedWasOnTheAir() {
        int found = 0;
        for (int seed = 0; seed < 60; seed++) {
            settledMesh(seed, 30, 0, 1, 2, 0, 2, 2, 1, 2, 9);
            mesh.send(1, 0, 5, 1);
            mesh.send(2, 0, 5, 2);
            if (mesh.node(1, 7) + 1 == mesh.node(2, 7)) {
                found++;
                mesh.tick(mesh.node(2, 7));
                node(1, 11, 2);
                node(2, 7, 0, 8, 0);
                mesh.kill(1);
                mesh.link(0, 2, 0);
                mesh.tick(1);
                node(2, 8, 1, 11, 0);
            }
        }
        DUE.is("died: found", found > 0, true);
    }
}
