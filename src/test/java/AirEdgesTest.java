/** The edges that the section 'Terms' names of draws, queues, the air and failures: one method a sentence. */
public final class AirEdgesTest {
    private static final Due DUE = new Due();
    private static final int SEEDS = 300;

    public static void main(String[] args) {
        theDrawWrapsAround();
        aFifthValueIsDropped();
        anAdvertBehindFourIsGone();
        aSolicitBehindFourIsGone();
        anAnnounceBehindFourIsGone();
        aWithdrawalTakesTheLastPlace();
        theNewFirstFrameBeginsAnew();
        theFirstOfAnEmptyQueueBeginsAnew();
        oneThatOwesSendsNothingElse();
        oneThatListensDoesNothing();
        anEmptyQueueSendsNothing();
        aWaitFallsWhileTheAirIsBusy();
        busyWaitsAreDrawnOfMore();
        theFifthTimeBusyAValueUpFails();
        theFifthTimeBusyAValueDownFails();
        theFifthTimeBusyAnAnnounceFails();
        theFifthTimeBusyAnAdvertFails();
        onlyTheLastTickMakesTheAirBusy();
        onlyTheLinkedMakeTheAirBusy();
        anAcknowledgementMakesTheAirBusy();
        twoOnTheAirAreNotHeard();
        oneOfTwoThatIsLinkedIsHeard();
        oneOnTheAirHearsNothing();
        aFrameForAnotherIsNotTaken();
        theSameFrameIsReceivedOnceThoughOthersCameBetween();
        aNodeListensInTheNextTickOnly();
        theFourthTryFails();
        aTryTakesBusyBack();
        aFailureTakesTheNextAlone();
        aFailureTakesTheParent();
        aFailureToOneThatIsNeitherTakesNothing();
        DUE.end("AirEdgesTest");
    }

    private static void found(int found) {
        DUE.is("cases found: " + found, found > 0, true);
    }

    /** 0 - 1, with rank and route made and nothing under way for so many ticks; null if it does not come so far. */
    private static Scene pair(int seed, int ticks) {
        Scene scene = new Scene(seed, 30, 9, 0, 1, 2).withoutOthers().ticks(100);
        return scene.still(ticks) ? scene : null;
    }

    /** The root with so many neighbours at cost 2, ranks made. */
    private static Scene star(int seed, int leaves) {
        Scene scene = new Scene(seed, 30, 9);
        for (int a = 1; a <= leaves; a++) {
            scene.link(0, a, 2);
        }
        return scene.withoutOthers().ticks(140);
    }

    private static void send(Scene scene, int a, int goal, int times) {
        for (int i = 0; i < times; i++) {
            scene.mesh.send(a, goal, 15, i);
        }
    }

    private static long drawn;

    private static int draw(int n) {
        drawn = drawn * 1103515245L + 12345 & 0xffffffffL;
        return (int) ((drawn >> 16) % n);
    }

    /** The root alone draws for its timer and its ADVERTs only; here in 64 bits, cut to 32. */
    private static void theDrawWrapsAround() {
        DUE.sentence("S (at first SEED) becomes S * 1103515245 + 12345, and (S >>> 16) % n is it");
        for (int seed : new int[] {0, 1, -1, 77, -12345, Integer.MAX_VALUE, Integer.MIN_VALUE}) {
            drawn = seed & 0xffffffffL;
            Scene scene = new Scene(seed, 0, 1);
            for (int a = 1; a < 7; a++) {
                scene.mesh.kill(a);
            }
            int interval = 4;
            int clock = 0;
            int point = 2 + draw(2);
            int queue = 0;
            int wait = 0;
            for (int i = 0; i < 1500; i++) {
                if (queue > 0 && wait-- == 0) {
                    queue = 0;
                    wait = 0;
                }
                if (++clock == point && queue == 0) {
                    queue = 1;
                    wait = draw(4);
                }
                if (clock == interval) {
                    interval = Math.min(64, interval * 2);
                    clock = 0;
                    point = interval / 2 + draw(interval / 2);
                }
                scene.mesh.tick(1);
                DUE.is("seed " + seed + ", interval", scene.interval(0), interval);
                DUE.is("seed " + seed + ", clock", scene.clock(0), clock);
                DUE.is("seed " + seed + ", queue", scene.queue(0), queue);
                DUE.is("seed " + seed + ", WAIT", scene.waits(0), wait);
            }
        }
    }

    private static void aFifthValueIsDropped() {
        DUE.sentence("what is queued behind 4 is gone (a VALUE is counted as DROPPED then)");
        int found = 0;
        for (int seed = 0; seed < 20; seed++) {
            Scene scene = pair(seed, 20);
            if (scene == null) {
                continue;
            }
            found++;
            for (int i = 1; i <= 4; i++) {
                DUE.is("sent", scene.mesh.send(1, 0, 15, i), i);
                DUE.is("queue", scene.queue(1), i);
            }
            DUE.is("none DROPPED of four", scene.dropped(), 0);
            DUE.is("the fifth is sent", scene.mesh.send(1, 0, 15, 5), 5);
            DUE.is("the queue stays", scene.queue(1), 4);
            DUE.is("the fifth is DROPPED", scene.dropped(), 1);
            DUE.is("the sixth is sent", scene.mesh.send(1, 0, 15, 6), 6);
            DUE.is("the sixth is DROPPED", scene.dropped(), 2);
            scene.ticks(60);
            DUE.is("four are delivered", scene.mesh.delivered(0, -1), 4);
            for (int k = 0; k < 4; k++) {
                DUE.is("delivered(0, " + k + ")", scene.mesh.delivered(0, k), 1004 - k);
            }
            DUE.is("none DROPPED later", scene.dropped(), 2);
        }
        found(found);
    }

    /** The root's queue is full and waits 3; repair resets its timer, whose point comes at 2 or 3. */
    private static void anAdvertBehindFourIsGone() {
        DUE.sentence("what is queued behind 4 is gone (an ADVERT; only a VALUE is counted)");
        int found = 0;
        for (int seed = 0; seed < SEEDS; seed++) {
            Scene scene = pair(seed, 20);
            if (scene == null) {
                continue;
            }
            send(scene, 0, 1, 4);
            if (scene.waits(0) != 3) {
                continue;
            }
            found++;
            scene.mesh.repair();
            for (int i = 1; i <= 3; i++) {
                scene.mesh.tick(1);
                DUE.is("clock", scene.clock(0), i);
                DUE.is("queue", scene.queue(0), 4);
            }
            DUE.is("nothing is DROPPED", scene.dropped(), 0);
            scene.ticks(2);
            DUE.is("the first value is done", scene.queue(0), 3);
            scene.ticks(60);
            DUE.is("all values came", scene.mesh.delivered(1, -1), 4);
            DUE.is("nothing is DROPPED later", scene.dropped(), 0);
        }
        found(found);
    }

    /** 1 has lost its parent and has, alone, a next for 2; null if not. Its timer is quiet for 16 ticks. */
    private static Scene lonelyWithNext(int seed) {
        Scene scene = new Scene(seed, 0, 9, 0, 1, 1, 1, 2, 1).ticks(150);
        scene.link(0, 1, 0, 1, 2, 0);
        scene.mesh.send(1, 0, 9, 9);
        scene.ticks(100);
        for (int i = 0; i < 300; i++) {
            boolean calm = scene.interval(1) == 64 && scene.clock(1) < 14 && scene.queue(1) == 0;
            if (calm && scene.now() % 16 == 14) {
                return scene.rank(1) == 255 && scene.mesh.next(1, 2) == 3 ? scene : null;
            }
            scene.mesh.tick(1);
        }
        return null;
    }

    private static void aSolicitBehindFourIsGone() {
        DUE.sentence("what is queued behind 4 is gone (a SOLICIT)");
        int found = 0;
        for (int seed = 0; seed < 60; seed++) {
            Scene scene = lonelyWithNext(seed);
            if (scene == null) {
                continue;
            }
            found++;
            int dropped = scene.dropped();
            send(scene, 1, 2, 4);
            scene.ticks(2);
            DUE.is("tick", scene.now() % 16, 0);
            DUE.is("queue", scene.queue(1), 4);
            scene.ticks(15);
            DUE.is("values alone are left", scene.queue(1), 4 - (scene.dropped() - dropped));
        }
        found(found);
    }

    private static void anAnnounceBehindFourIsGone() {
        DUE.sentence("what is queued behind 4 is gone (an ANNOUNCE; the NUMBER grows all the same)");
        int found = 0;
        for (int seed = 0; seed < SEEDS; seed++) {
            Scene scene = new Scene(seed, 30, 9, 0, 1, 2).ticks(100);
            scene.untilNow(64, 62);
            int number = scene.number(1);
            boolean calm = scene.queue(1) == 0 && scene.queue(0) == 0 && scene.clock(1) < 20 && scene.clock(0) < 20;
            send(scene, 1, 0, 4);
            if (!calm || scene.waits(1) == 0) {
                continue;
            }
            found++;
            scene.ticks(2);
            DUE.is("tick", scene.now() % 64, 0);
            DUE.is("number", scene.number(1), number + 1);
            DUE.is("queue", scene.queue(1), 4);
            DUE.is("nothing is DROPPED", scene.dropped(), 0);
        }
        found(found);
    }

    /** 4 loses its parent 0 for 1 while so many values wait: whether it came so far, and 25 ticks are left. */
    private static boolean newParentWith(Scene scene, int values) {
        scene.link(0, 4, 1, 0, 1, 1, 1, 4, 3).withoutOthers().ticks(150);
        if (!scene.still(10) || scene.parent(4) != 0 || scene.mesh.known(4, 1) != 2) {
            return false;
        }
        int number = scene.number(4);
        scene.link(0, 4, 0);
        send(scene, 4, 0, values);
        if (!scene.until(4, 1, 2) || scene.now() % 64 > 37) {
            return false;
        }
        DUE.is("NUMBER", scene.number(4), number + 1);
        DUE.is("DROPPED", scene.dropped(), 1);
        return true;
    }

    /** At a cost that makes it no parent again, 0 is there to take what was queued for it. */
    private static void takeWhatIsQueued(Scene scene) {
        scene.link(0, 4, 9);
        for (int i = scene.now() % 64; i < 63 && scene.queue(4) + scene.queue(1) > 0; i++) {
            scene.mesh.tick(1);
        }
    }

    private static void aWithdrawalTakesTheLastPlace() {
        DUE.sentence("what is queued behind 4 is gone (the ANNOUNCE behind a WITHDRAWAL)");
        int full = 0;
        int room = 0;
        for (int seed = 0; seed < SEEDS; seed++) {
            Scene scene = new Scene(seed, 30, 9);
            if (newParentWith(scene, 4)) {
                DUE.is("three values and the WITHDRAWAL", scene.queue(4), 4);
                takeWhatIsQueued(scene);
                if (scene.queue(4) == 0) {
                    full++;
                    DUE.is("the values came", scene.mesh.delivered(0, -1), 3);
                    DUE.is("the WITHDRAWAL came", scene.mesh.next(0, 4), 0);
                    DUE.is("no ANNOUNCE came", scene.mesh.next(1, 4), 0);
                }
            }
            scene = new Scene(seed, 30, 9);
            if (newParentWith(scene, 3)) {
                DUE.is("two values, WITHDRAWAL and ANNOUNCE", scene.queue(4), 4);
                takeWhatIsQueued(scene);
                if (scene.queue(4) == 0) {
                    room++;
                    DUE.is("the values came", scene.mesh.delivered(0, -1), 2);
                    DUE.is("the ANNOUNCE came", scene.mesh.next(1, 4), 5);
                }
            }
        }
        found(full);
        found(room);
    }

    private static void theNewFirstFrameBeginsAnew() {
        DUE.sentence("when a frame becomes the first, BUSY and TRIES are 0 and WAIT is drawn of 4");
        int found = 0;
        int waits = 0;
        for (int seed = 0; seed < SEEDS; seed++) {
            Scene scene = pair(seed, 20);
            if (scene == null) {
                continue;
            }
            scene.link(0, 1, 0);
            send(scene, 1, 0, 2);
            if (!scene.until(1, 9, 2)) {
                continue;
            }
            scene.link(0, 1, 2);
            if (scene.until(1, 6, 1)) {
                found++;
                DUE.is("TRIES", scene.tries(1), 0);
                DUE.is("BUSY", scene.busy(1), 0);
                waits |= 1 << scene.waits(1);
            }
        }
        found(found);
        DUE.is("WAIT 0 .. 3 and no other", waits, 15);
    }

    private static void theFirstOfAnEmptyQueueBeginsAnew() {
        DUE.sentence("when a frame becomes the first (of an empty queue), BUSY and TRIES are 0");
        int found = 0;
        int waits = 0;
        for (int seed = 0; seed < SEEDS; seed++) {
            Scene scene = star(seed, 6);
            scene.chatter(2);
            scene.cut(1);
            boolean alone = scene.queue(1) == 0;
            scene.mesh.send(1, 0, 15, 7);
            if (!alone || !scene.makeBusy(1, 2) || !scene.until(1, 9, 1) || scene.queue(1) != 1) {
                continue;
            }
            // Again on the air, and busy before: then it is acknowledged, and the queue is empty.
            if (!scene.makeBusy(1, 1) || !scene.ready(1) || scene.queue(1) != 1) {
                continue;
            }
            scene.link(0, 1, 2);
            scene.ticks(2);
            if (scene.queue(1) != 0) {
                continue;
            }
            found++;
            DUE.is("BUSY of none", scene.busy(1), 0);
            DUE.is("TRIES of none", scene.tries(1), 0);
            DUE.is("WAIT of none", scene.waits(1), 0);
            scene.mesh.send(1, 0, 15, 8);
            DUE.is("BUSY", scene.busy(1), 0);
            DUE.is("TRIES", scene.tries(1), 0);
            waits |= 1 << scene.waits(1);
        }
        found(found);
        DUE.is("WAIT 0 .. 3 and no other", waits, 15);
    }

    private static void oneThatOwesSendsNothingElse() {
        DUE.sentence("a node that OWES an acknowledgement sends it (and owes it no more)");
        int found = 0;
        for (int seed = 0; seed < SEEDS; seed++) {
            Scene scene = pair(seed, 20);
            if (scene == null) {
                continue;
            }
            send(scene, 1, 0, 1);
            send(scene, 0, 1, 1);
            if (scene.waits(0) <= scene.waits(1)) {
                continue;
            }
            found++;
            scene.ticks(scene.waits(1) + 1);
            DUE.is("0 owes", scene.owes(0), true);
            int aired = scene.aired();
            int wait = scene.waits(0);
            scene.ticks(1);
            DUE.is("0 owes no more", scene.owes(0), false);
            DUE.is("it was acknowledged", scene.queue(1), 0);
            DUE.is("its own frame waits as before", scene.waits(0), wait);
            DUE.is("and was not on the air", scene.aired(), aired);
            DUE.is("nor found it busy", scene.busy(0), 0);
        }
        found(found);
    }

    private static void oneThatListensDoesNothing() {
        DUE.sentence("Otherwise, one that LISTENS for an acknowledgement does nothing");
        int found = 0;
        for (int seed = 0; seed < SEEDS; seed++) {
            Scene scene = pair(seed, 20);
            if (scene == null) {
                continue;
            }
            scene.link(0, 1, 0);
            send(scene, 1, 0, 2);
            if (scene.until(1, 11, Scene.LISTENS)) {
                found++;
                int aired = scene.aired();
                scene.ticks(1);
                DUE.is("not on the air", scene.aired(), aired);
                DUE.is("one try", scene.tries(1), 1);
                DUE.is("queue", scene.queue(1), 2);
                DUE.is("listens no more", scene.listens(1), false);
            }
        }
        found(found);
    }

    private static void anEmptyQueueSendsNothing() {
        DUE.sentence("Otherwise, if its queue is not empty");
        Scene scene = new Scene(5, 30, 9);
        scene.mesh.tick(1);
        DUE.is("none on the air in the first tick", scene.aired(), 0);
        for (int a = 1; a < 7; a++) {
            scene.mesh.kill(a);
        }
        // The root alone: its first four ADVERTs, no more.
        scene.ticks(63);
        scene.ticks(4);
        DUE.is("ADVERTs on the air", scene.aired(), 4);
    }

    private static void aWaitFallsWhileTheAirIsBusy() {
        DUE.sentence("when WAIT is greater than 0, it falls by 1 (though the air is busy)");
        int found = 0;
        for (int seed = 0; seed < 60; seed++) {
            Scene scene = star(seed, 6);
            scene.chatter(2);
            scene.cut(1);
            scene.mesh.send(1, 0, 15, 7);
            for (int i = 0; i < 12 && scene.waits(1) > 0 && !scene.listens(1); i++) {
                int wait = scene.waits(1);
                int busy = scene.busy(1);
                if (scene.oneBusyTick(1)) {
                    found++;
                    DUE.is("WAIT", scene.waits(1), wait - 1);
                    DUE.is("BUSY", scene.busy(1), busy);
                } else {
                    scene.mesh.tick(1);
                }
            }
        }
        found(found);
    }

    private static void busyWaitsAreDrawnOfMore() {
        DUE.sentence("WAIT is drawn of 4 * 2^BUSY, but of 32 at most");
        long[] seen = new long[5];
        for (int seed = 0; seed < 3 * SEEDS; seed++) {
            Scene scene = star(seed, 6);
            scene.chatter(2);
            scene.cut(1);
            scene.mesh.send(1, 0, 15, 7);
            for (int busy = 1; busy < 5 && scene.makeBusy(1, busy); busy++) {
                seen[busy] |= 1L << Math.min(63, scene.waits(1));
            }
        }
        DUE.is("BUSY 1: WAIT 0 .. 7 and no other", seen[1], 0xffL);
        DUE.is("BUSY 2: WAIT 0 .. 15 and no other", seen[2], 0xffffL);
        DUE.is("BUSY 3: WAIT 0 .. 31 and no other", seen[3], 0xffffffffL);
        DUE.is("BUSY 4: 31 at most", seen[4] >>> 32, 0);
        DUE.is("BUSY 4: many of 0 .. 31", Long.bitCount(seen[4]) > 20, true);
    }

    /** One tick more, in which node a finds the air busy for the fifth time and no other frame fails. */
    private static boolean fifthTime(Scene scene, int a) {
        if (!scene.makeBusy(a, 4) || !scene.ready(a)) {
            return false;
        }
        for (int x = 0; x < 7; x++) {
            if (scene.listens(x) && scene.tries(x) == 3) {
                return false;
            }
        }
        return scene.oneBusyTick(a);
    }

    private static void theFifthTimeBusyAValueUpFails() {
        DUE.sentence("BUSY grows by 1; is it 5 then, the first frame FAILS (a VALUE for the parent)");
        int found = 0;
        for (int seed = 0; seed < SEEDS; seed++) {
            Scene scene = star(seed, 6);
            scene.chatter(2);
            scene.cut(1);
            boolean alone = scene.queue(1) == 0;
            scene.mesh.send(1, 0, 15, 7);
            if (!alone || !scene.makeBusy(1, 4)) {
                continue;
            }
            DUE.is("the fourth time it does not fail", scene.parent(1), 0);
            boolean ready = scene.ready(1);
            int dropped = scene.dropped();
            int queue = scene.queue(1);
            if (ready && fifthTime(scene, 1)) {
                found++;
                DUE.is("DROPPED", scene.dropped(), dropped + 1);
                DUE.is("the VALUE left, a WITHDRAWAL came", scene.queue(1), queue);
                DUE.is("BUSY of the new first frame", scene.busy(1), 0);
                DUE.is("it was not on the air", scene.listens(1), false);
                DUE.is("parent", scene.parent(1), -1);
                DUE.is("rank", scene.rank(1), 255);
                DUE.is("known(1, 0)", scene.mesh.known(1, 0), 0);
            }
        }
        found(found);
    }

    private static void theFifthTimeBusyAValueDownFails() {
        DUE.sentence("BUSY grows by 1; is it 5 then, the first frame FAILS (a VALUE for a next)");
        int found = 0;
        for (int seed = 0; seed < SEEDS; seed++) {
            Scene scene = star(seed, 6);
            scene.chatter(2);
            scene.cut(0);
            boolean alone = scene.queue(0) == 0 && scene.mesh.next(0, 1) == 2 && scene.mesh.next(0, 2) == 3;
            scene.mesh.send(0, 1, 15, 7);
            if (!alone || !scene.makeBusy(0, 4) || !scene.ready(0)) {
                continue;
            }
            DUE.is("the fourth time it does not fail", scene.mesh.next(0, 1), 2);
            int dropped = scene.dropped();
            int known = scene.mesh.known(0, 1);
            if (fifthTime(scene, 0)) {
                found++;
                DUE.is("DROPPED", scene.dropped(), dropped + 1);
                DUE.is("BUSY of the new first frame, or none", scene.busy(0), 0);
                DUE.is("next(0, 1)", scene.mesh.next(0, 1), 0);
                DUE.is("next(0, 2)", scene.mesh.next(0, 2), 3);
                DUE.is("known(0, 1)", scene.mesh.known(0, 1), known);
                DUE.is("rank", scene.rank(0), 1);
            }
        }
        found(found);
    }

    private static void theFifthTimeBusyAnAnnounceFails() {
        DUE.sentence("A frame that FAILS leaves the queue; a VALUE is counted as DROPPED (an ANNOUNCE is not)");
        int found = 0;
        for (int seed = 0; seed < SEEDS; seed++) {
            Scene scene = star(seed, 6);
            scene.untilNow(64, 63);
            boolean alone = scene.queue(1) == 0 && scene.parent(1) == 0;
            scene.chatter(2);
            scene.cut(1);
            scene.mesh.tick(1);
            // An ADVERT of the same tick would be before it.
            if (!alone || scene.queue(1) != 1 || !scene.makeBusy(1, 4) || !scene.ready(1)) {
                continue;
            }
            DUE.is("the fourth time it does not fail", scene.parent(1), 0);
            int dropped = scene.dropped();
            if (fifthTime(scene, 1)) {
                found++;
                DUE.is("DROPPED", scene.dropped(), dropped);
                DUE.is("parent", scene.parent(1), -1);
                DUE.is("known(1, 0)", scene.mesh.known(1, 0), 0);
            }
        }
        found(found);
    }

    private static void theFifthTimeBusyAnAdvertFails() {
        DUE.sentence("Then, if it went to one node (an ADVERT did not: it leaves, and that is all)");
        int found = 0;
        for (int seed = 0; seed < SEEDS; seed++) {
            Scene scene = star(seed, 6);
            for (int i = 0; i < 100 && (scene.queue(1) > 0 || scene.now() % 64 == 0); i++) {
                scene.mesh.tick(1);
            }
            for (int i = 0; i < 100 && scene.queue(1) == 0; i++) {
                scene.mesh.tick(1);
            }
            scene.chatter(2);
            scene.cut(1);
            // A new parent's ANNOUNCE would come with a new interval.
            boolean advert = scene.now() % 64 > 0 && scene.queue(1) == 1 && scene.clock(1) * 2 >= scene.interval(1);
            if (!advert || !scene.makeBusy(1, 4) || !scene.ready(1)) {
                continue;
            }
            int dropped = scene.dropped();
            int queue = scene.queue(1);
            // Else another ADVERT may have been queued in the same tick.
            if (fifthTime(scene, 1) && scene.now() % 64 > 0 && scene.clock(1) * 2 < scene.interval(1)) {
                found++;
                DUE.is("queue", scene.queue(1), queue - 1);
                DUE.is("DROPPED", scene.dropped(), dropped);
                DUE.is("parent", scene.parent(1), 0);
                DUE.is("known(1, 0)", scene.mesh.known(1, 0), 1);
                DUE.is("rank", scene.rank(1), 3);
            }
        }
        found(found);
    }

    private static void onlyTheLastTickMakesTheAirBusy() {
        DUE.sentence("a node linked with it was on the air in the last tick (not in the one before)");
        int found = 0;
        for (int seed = 0; seed < SEEDS; seed++) {
            Scene scene = star(seed, 6);
            scene.chatter(6);
            scene.cut(1);
            boolean alone = scene.queue(1) == 0;
            scene.mesh.send(1, 0, 15, 7);
            for (int i = 0; i < 3 && !scene.listens(6); i++) {
                scene.mesh.tick(1);
            }
            if (alone && scene.listens(6) && scene.waits(1) == 1) {
                found++;
                scene.mesh.tick(1);
                scene.link(1, 6, 9);
                scene.mesh.tick(1);
                DUE.is("BUSY", scene.busy(1), 0);
                DUE.is("on the air", scene.listens(1), true);
            }
        }
        found(found);
    }

    private static void onlyTheLinkedMakeTheAirBusy() {
        DUE.sentence("a node linked with it was on the air in the last tick (one that is not linked is nothing to it)");
        int found = 0;
        for (int seed = 0; seed < 60; seed++) {
            Scene scene = star(seed, 6);
            scene.chatter(2);
            scene.cut(1);
            boolean alone = scene.queue(1) == 0;
            scene.mesh.send(1, 0, 15, 7);
            if (alone && scene.ready(1) && scene.lastSpeaker() > 1) {
                found++;
                scene.mesh.tick(1);
                DUE.is("BUSY", scene.busy(1), 0);
                DUE.is("on the air", scene.listens(1), true);
            }
        }
        found(found);
    }

    private static void anAcknowledgementMakesTheAirBusy() {
        DUE.sentence("a node linked with it was on the air in the last tick (with an acknowledgement, too)");
        int found = 0;
        for (int seed = 0; seed < SEEDS; seed++) {
            Scene scene = star(seed, 2);
            if (!scene.still(20)) {
                continue;
            }
            scene.cut(2);
            scene.mesh.send(1, 0, 15, 1);
            scene.mesh.send(2, 0, 15, 2);
            scene.ticks(scene.waits(1) + 1);
            if (scene.owes(0) && scene.waits(2) == 1) {
                found++;
                scene.mesh.tick(1);
                DUE.is("it was acknowledged", scene.queue(1), 0);
                scene.link(0, 2, 9);
                scene.mesh.tick(1);
                DUE.is("BUSY", scene.busy(2), 1);
                DUE.is("not on the air", scene.listens(2), false);
            }
        }
        found(found);
    }

    /** 1 and 2 are both on the air for the root in the next tick; null if they do not come so far. */
    private static Scene bothReady(int seed) {
        Scene scene = star(seed, 2);
        if (!scene.still(20)) {
            return null;
        }
        scene.mesh.send(1, 0, 15, 1);
        scene.mesh.send(2, 0, 15, 2);
        boolean both = scene.waits(1) == scene.waits(2);
        scene.ticks(scene.waits(1));
        return both ? scene : null;
    }

    private static void twoOnTheAirAreNotHeard() {
        DUE.sentence("HEARS a frame when just one of the nodes linked with it is on the air (not two)");
        int found = 0;
        for (int seed = 0; seed < SEEDS; seed++) {
            Scene scene = bothReady(seed);
            if (scene != null) {
                found++;
                scene.mesh.tick(1);
                DUE.is("both are on the air", scene.listens(1) && scene.listens(2), true);
                DUE.is("0 owes", scene.owes(0), false);
                DUE.is("delivered", scene.mesh.delivered(0, -1), 0);
                scene.mesh.tick(1);
                DUE.is("TRIES of 1", scene.tries(1), 1);
                DUE.is("TRIES of 2", scene.tries(2), 1);
            }
        }
        found(found);
    }

    private static void oneOfTwoThatIsLinkedIsHeard() {
        DUE.sentence("HEARS a frame when just one of the nodes linked with it is on the air (of two)");
        int found = 0;
        for (int seed = 0; seed < SEEDS; seed++) {
            Scene scene = bothReady(seed);
            if (scene != null) {
                found++;
                scene.link(0, 2, 0);
                scene.mesh.tick(1);
                DUE.is("both are on the air", scene.listens(1) && scene.listens(2), true);
                DUE.is("0 owes", scene.owes(0), true);
                DUE.is("delivered", scene.mesh.delivered(0, 0), 1001);
                // Linked again, 2 hears the acknowledgement for 1: it is not for it.
                scene.link(0, 2, 2);
                scene.mesh.tick(1);
                DUE.is("1 is done", scene.queue(1), 0);
                DUE.is("2 is not", scene.queue(2), 1);
                DUE.is("TRIES of 2", scene.tries(2), 1);
            }
        }
        found(found);
    }

    private static void oneOnTheAirHearsNothing() {
        DUE.sentence("A node that is not on the air HEARS a frame");
        int found = 0;
        for (int seed = 0; seed < SEEDS; seed++) {
            Scene scene = pair(seed, 20);
            if (scene == null) {
                continue;
            }
            scene.mesh.send(0, 1, 15, 1);
            scene.mesh.send(1, 0, 15, 2);
            if (scene.waits(0) == scene.waits(1)) {
                found++;
                scene.ticks(scene.waits(0) + 1);
                DUE.is("both are on the air", scene.listens(0) && scene.listens(1), true);
                DUE.is("delivered", scene.mesh.count(1), 0);
                scene.mesh.tick(1);
                DUE.is("TRIES of 0", scene.tries(0), 1);
                DUE.is("TRIES of 1", scene.tries(1), 1);
            }
        }
        found(found);
    }

    private static void aFrameForAnotherIsNotTaken() {
        DUE.sentence("A frame to one node, if it is that ... Other frames are not for it");
        int found = 0;
        for (int seed = 0; seed < 60; seed++) {
            Scene scene = new Scene(seed, 30, 9, 0, 1, 2, 1, 2, 2).withoutOthers().ticks(140);
            if (!scene.still(20)) {
                continue;
            }
            scene.mesh.send(1, 0, 15, 5);
            if (scene.until(1, 11, Scene.LISTENS)) {
                found++;
                DUE.is("0 owes", scene.owes(0), true);
                DUE.is("2 owes", scene.owes(2), false);
                DUE.is("delivered to 2", scene.mesh.delivered(2, -1), 0);
                DUE.is("queue of 2", scene.queue(2), 0);
            }
        }
        found(found);
    }

    private static void theSameFrameIsReceivedOnceThoughOthersCameBetween() {
        DUE.sentence("it is RECEIVED, if it is not the one that it received last from this sender");
        int found = 0;
        for (int seed = 0; seed < SEEDS; seed++) {
            Scene scene = star(seed, 2);
            if (!scene.still(28)) {
                continue;
            }
            scene.mesh.send(1, 0, 15, 5);
            scene.until(1, 11, Scene.LISTENS);
            scene.link(0, 1, 0);
            scene.mesh.tick(1);
            scene.mesh.send(2, 0, 15, 6);
            if (!scene.until(2, 6, 0) || scene.tries(1) > 2 || scene.listens(1)) {
                continue;
            }
            DUE.is("delivered of both", scene.mesh.delivered(0, -1), 2);
            scene.link(0, 1, 2);
            boolean again = scene.until(0, 11, Scene.OWES);
            if (again && scene.listens(1)) {
                found++;
                DUE.is("not delivered again", scene.mesh.delivered(0, -1), 2);
                scene.mesh.tick(1);
                DUE.is("but acknowledged", scene.queue(1), 0);
                scene.mesh.send(1, 0, 15, 5);
                scene.ticks(12);
                DUE.is("another frame of the same value", scene.mesh.delivered(0, -1), 3);
            }
        }
        found(found);
    }

    private static void aNodeListensInTheNextTickOnly() {
        DUE.sentence("otherwise the node LISTENS in the next tick (and only then)");
        int found = 0;
        for (int seed = 0; seed < SEEDS; seed++) {
            Scene scene = pair(seed, 20);
            if (scene == null) {
                continue;
            }
            scene.link(0, 1, 0);
            scene.mesh.send(1, 0, 15, 5);
            for (int tries = 0; tries < 3; tries++) {
                scene.ready(1);
                DUE.is("before it is on the air", scene.listens(1), false);
                scene.mesh.tick(1);
                DUE.is("in the next tick", scene.listens(1), true);
                DUE.is("TRIES before", scene.tries(1), tries);
                scene.mesh.tick(1);
                DUE.is("after it", scene.listens(1), false);
                DUE.is("TRIES after", scene.tries(1), tries + 1);
                DUE.is("WAIT 0 .. 3", scene.waits(1) < 4, true);
                found++;
            }
        }
        found(found);
    }

    private static void theFourthTryFails() {
        DUE.sentence("TRIES grows by 1; is it 4 then, the first frame FAILS");
        int found = 0;
        for (int seed = 0; seed < 60; seed++) {
            Scene scene = pair(seed, 21);
            if (scene == null) {
                continue;
            }
            found++;
            int aired = scene.aired();
            scene.link(0, 1, 0);
            scene.mesh.send(1, 0, 15, 5);
            DUE.is("the third try comes", scene.until(1, 9, 3), true);
            DUE.is("none DROPPED yet", scene.dropped(), 0);
            DUE.is("three times on the air", scene.aired(), aired + 3);
            scene.ready(1);
            scene.mesh.tick(1);
            DUE.is("the fourth time", scene.aired(), aired + 4);
            DUE.is("it listens", scene.listens(1), true);
            DUE.is("none DROPPED yet", scene.dropped(), 0);
            scene.mesh.tick(1);
            DUE.is("DROPPED", scene.dropped(), 1);
            DUE.is("WITHDRAWAL and perhaps SOLICIT are queued", scene.queue(1), scene.now() % 16 == 0 ? 2 : 1);
            DUE.is("TRIES of the new first frame", scene.tries(1), 0);
        }
        found(found);
    }

    private static void aTryTakesBusyBack() {
        DUE.sentence("TRIES grows by 1 ... otherwise BUSY is 0 and WAIT is drawn of 4");
        int found = 0;
        int waits = 0;
        for (int seed = 0; seed < SEEDS; seed++) {
            Scene scene = star(seed, 6);
            scene.chatter(2);
            scene.cut(1);
            boolean alone = scene.queue(1) == 0;
            scene.mesh.send(1, 0, 15, 7);
            if (alone && scene.makeBusy(1, 2) && scene.ready(1)) {
                found++;
                scene.mesh.tick(1);
                DUE.is("BUSY on the air", scene.busy(1), 2);
                scene.mesh.tick(1);
                DUE.is("TRIES", scene.tries(1), 1);
                DUE.is("BUSY", scene.busy(1), 0);
                waits |= 1 << scene.waits(1);
            }
        }
        found(found);
        DUE.is("WAIT 0 .. 3 and no other", waits, 15);
    }

    private static void aFailureTakesTheNextAlone() {
        DUE.sentence("when z is the NEXT for some goals, it is not any more");
        int found = 0;
        for (int seed = 0; seed < 100; seed++) {
            Scene scene = new Scene(seed, 30, 9, 0, 1, 2, 1, 2, 2, 2, 3, 2, 1, 4, 2).withoutOthers().ticks(200);
            boolean made = scene.still(5) && scene.mesh.next(1, 3) == 3 && scene.mesh.next(1, 4) == 5;
            if (!made) {
                continue;
            }
            found++;
            scene.link(1, 2, 0);
            scene.mesh.send(1, 3, 15, 5);
            for (int i = 0; i < 40 && scene.dropped() == 0; i++) {
                scene.mesh.tick(1);
            }
            DUE.is("DROPPED", scene.dropped(), 1);
            DUE.is("next(1, 2)", scene.mesh.next(1, 2), 0);
            DUE.is("next(1, 3)", scene.mesh.next(1, 3), 0);
            DUE.is("next(1, 4)", scene.mesh.next(1, 4), 5);
            DUE.is("known(1, 2): it was not the parent", scene.mesh.known(1, 2), 5);
            DUE.is("parent", scene.parent(1), 0);
            DUE.is("rank", scene.rank(1), 3);
        }
        found(found);
    }

    private static void aFailureTakesTheParent() {
        DUE.sentence("when z is the PARENT, its rank is not known any more, and the node CHOOSES");
        int found = 0;
        for (int seed = 0; seed < 100; seed++) {
            Scene scene = new Scene(seed, 30, 9, 0, 1, 2, 1, 2, 2, 0, 2, 2).withoutOthers().ticks(200);
            boolean made = scene.still(5) && scene.parent(1) == 0 && scene.mesh.known(1, 2) == 3;
            if (!made) {
                continue;
            }
            found++;
            scene.link(0, 1, 0);
            scene.mesh.send(1, 0, 15, 5);
            scene.until(1, 9, 3);
            DUE.is("parent before", scene.parent(1), 0);
            scene.until(1, 9, 0);
            DUE.is("known(1, 0)", scene.mesh.known(1, 0), 0);
            DUE.is("parent", scene.parent(1), 2);
            DUE.is("rank", scene.rank(1), 5);
            DUE.is("known(1, 2)", scene.mesh.known(1, 2), 3);
        }
        found(found);
    }

    private static void aFailureToOneThatIsNeitherTakesNothing() {
        DUE.sentence("if it went to one node z (that is neither a NEXT nor the PARENT any more)");
        int found = 0;
        for (int seed = 0; seed < SEEDS; seed++) {
            Scene scene = new Scene(seed, 30, 9);
            if (!newParentWith(scene, 2)) {
                continue;
            }
            int number = scene.number(4);
            scene.ticks(26);
            if (scene.dropped() == 2) {
                found++;
                DUE.is("parent", scene.parent(4), 1);
                DUE.is("rank", scene.rank(4), 5);
                DUE.is("NUMBER", scene.number(4), number);
                DUE.is("known(4, 1)", scene.mesh.known(4, 1), 2);
            }
        }
        found(found);
    }
}
