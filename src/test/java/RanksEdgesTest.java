/** The edges that the section 'Terms' names of ranks, adverts and timers: one method a sentence. */
public final class RanksEdgesTest {
    private static final Due DUE = new Due();
    private static final int SEEDS = 100;

    public static void main(String[] args) {
        theRootNeverChangesButItsVersion();
        oneThatIsNotLinkedIsNotChosen();
        oneWhoseRankIsNotKnownIsNotChosen();
        oneOfRank255IsNotChosen();
        ofSeveralTheParentStays();
        ofSeveralTheLowestIsTaken();
        withNoneThereIsNoRank();
        theGreatestRankIs254();
        leastAndRiseAreReached();
        leastIsTheRankIfLess();
        nothingOtherIsNoReset();
        anotherRankAlone();
        anotherParentAlone();
        theFirstParentIsNoWithdrawal();
        noParentAnyMoreIsNoAnnounce();
        aGreaterVersionForgets();
        aGreaterVersionWithARankToLose();
        aGreaterVersionWithNothingToLose();
        aLesserVersionIsAReset();
        aLesserVersionWithoutATimer();
        anEqualVersionAtTheRootIsCounted();
        theDeadTakeNothing();
        aSolicitAtRank255IsNothing();
        aSolicitAtARankIsAReset();
        aTimerBeginsWithTheFirstRank();
        aTimerGoesOnWithoutARank();
        thePointIsInTheSecondHalf();
        countIsLessThanRedundant();
        anAdvertIsNotQueuedTwice();
        theIntervalDoublesTo64();
        aResetAt4IsNothing();
        solicitsComeInMultiplesOf16();
        aSolicitIsNotQueuedTwice();
        oneWithARankDoesNotSolicit();
        announcesComeInMultiplesOf64();
        oneWithoutAParentDoesNotAnnounce();
        DUE.end("RanksEdgesTest");
    }

    private static void found(int found) {
        DUE.is("cases found: " + found, found > 0, true);
    }

    private static Scene made(int seed, int rise, int... links) {
        return new Scene(seed, rise, 9, links).withoutOthers().ticks(150);
    }

    private static void theRootNeverChangesButItsVersion() {
        DUE.sentence("The root's never change, but its version");
        Scene scene = made(1, 30, 0, 1, 2, 1, 2, 2);
        scene.mesh.repair();
        scene.link(0, 1, 0);
        scene.mesh.send(0, 1, 15, 1);
        scene.ticks(100);
        DUE.is("rank", scene.rank(0), 1);
        DUE.is("parent", scene.parent(0), -1);
        DUE.is("LEAST", scene.least(0), 255);
        DUE.is("version", scene.version(0), 2);
        DUE.is("NUMBER", scene.number(0), 0);
    }

    /** 3 below 1, and 2 known, too: the costs decide. */
    private static Scene twoWays(int seed, int rise, int costOf1, int costOf2) {
        return new Scene(seed, rise, 9, 0, 1, 1, 0, 2, 1, 1, 3, costOf1, 2, 3, costOf2).withoutOthers().ticks(220);
    }

    private static void oneThatIsNotLinkedIsNotChosen() {
        DUE.sentence("of the nodes linked with it whose rank is known");
        int found = 0;
        for (int seed = 0; seed < SEEDS; seed++) {
            Scene scene = twoWays(seed, 30, 1, 5);
            if (scene.parent(3) != 1 || scene.mesh.known(3, 2) != 2) {
                continue;
            }
            scene.link(1, 3, 0);
            DUE.is("no link, no change at once", scene.parent(3), 1);
            scene.untilChange(3);
            if (scene.mesh.known(3, 1) == 2 && scene.mesh.known(3, 2) == 2) {
                found++;
                DUE.is("parent", scene.parent(3), 2);
                DUE.is("rank", scene.rank(3), 7);
            }
        }
        found(found);
    }

    private static void oneWhoseRankIsNotKnownIsNotChosen() {
        DUE.sentence("whose rank is known");
        int found = 0;
        for (int seed = 0; seed < SEEDS; seed++) {
            Scene scene = made(seed, 30, 0, 1, 9, 1, 2, 9);
            if (scene.rank(2) != 19 || !scene.untilAdvert(1) || scene.mesh.known(2, 0) != 0) {
                continue;
            }
            int counted = scene.counted(2);
            boolean aired = scene.tickLinked(0, 2, 1);
            if (aired && scene.counted(2) == counted + 1) {
                found++;
                DUE.is("parent", scene.parent(2), 1);
                DUE.is("rank", scene.rank(2), 19);
                DUE.is("known(2, 0)", scene.mesh.known(2, 0), 0);
            }
        }
        found(found);
    }

    /** 1 was the parent of 2 and has lost its own; 2 takes its ADVERT of rank 255. */
    private static void oneOfRank255IsNotChosen() {
        DUE.sentence("whose rank is known and not 255");
        int found = 0;
        for (int seed = 0; seed < SEEDS; seed++) {
            Scene scene = made(seed, 200, 0, 1, 1, 1, 2, 1);
            scene.link(0, 1, 0, 1, 2, 0);
            scene.mesh.send(1, 0, 15, 1);
            if (!scene.until(1, 0, 255) || scene.rank(2) != 3 || !scene.untilAdvert(1)) {
                continue;
            }
            scene.tickLinked(1, 2, 1);
            if (scene.mesh.known(2, 1) == 255) {
                found++;
                DUE.is("rank", scene.rank(2), 255);
                DUE.is("parent", scene.parent(2), -1);
            }
        }
        found(found);
    }

    private static void ofSeveralTheParentStays() {
        DUE.sentence("of several its parent, if it is among them");
        int found = 0;
        for (int seed = 0; seed < SEEDS; seed++) {
            Scene scene = new Scene(seed, 30, 9, 0, 1, 1, 0, 2, 1, 2, 3, 1).withoutOthers().ticks(150);
            if (scene.parent(3) != 2) {
                continue;
            }
            scene.link(1, 3, 1);
            for (int i = 0; i < 150 && scene.mesh.known(3, 1) == 0; i++) {
                scene.mesh.tick(1);
            }
            if (scene.mesh.known(3, 1) == 2) {
                found++;
                DUE.is("parent", scene.parent(3), 2);
                DUE.is("rank", scene.rank(3), 3);
            }
        }
        found(found);
    }

    /** 5 knows 1, 2 and 3 at the same sum, and its parent 0 fails. */
    private static void ofSeveralTheLowestIsTaken() {
        DUE.sentence("of several its parent, if it is among them, otherwise the lowest");
        int found = 0;
        for (int seed = 0; seed < SEEDS; seed++) {
            Scene scene = new Scene(seed, 30, 9, 0, 5, 1, 0, 1, 4, 0, 2, 3, 0, 3, 2, 1, 5, 1, 2, 5, 2, 3, 5, 3);
            scene.withoutOthers().ticks(200);
            boolean known = scene.mesh.known(5, 1) == 5 && scene.mesh.known(5, 2) == 4 && scene.mesh.known(5, 3) == 3;
            scene.link(0, 5, 0);
            scene.mesh.send(5, 0, 15, 1);
            if (scene.parent(5) == 0 && known && scene.untilChange(5) != null) {
                found++;
                DUE.is("parent", scene.parent(5), 1);
                DUE.is("rank", scene.rank(5), 6);
            }
        }
        found(found);
    }

    private static void withNoneThereIsNoRank() {
        DUE.sentence("If there is none ... its rank is 255, and it has no parent");
        int found = 0;
        for (int seed = 0; seed < SEEDS; seed++) {
            Scene scene = made(seed, 200, 0, 1, 2);
            scene.link(0, 1, 0);
            scene.mesh.send(1, 0, 15, 1);
            if (scene.parent(1) == 0 && scene.untilChange(1) != null) {
                found++;
                DUE.is("rank", scene.rank(1), 255);
                DUE.is("parent", scene.parent(1), -1);
                DUE.is("LEAST", scene.least(1), 3);
            }
        }
        found(found);
    }

    /** 5 and 6, cut off, raise one another; costs are set so that 5 comes to 246, and 6 hears it. */
    private static Scene raised(int lastCost) {
        Scene scene = made(1, 200, 0, 1, 9, 1, 2, 9, 2, 3, 9, 3, 4, 9, 4, 5, 9, 5, 6, 9).ticks(150);
        DUE.is("LEAST of 6", scene.least(6), 55);
        scene.link(4, 5, 0);
        scene.mesh.send(5, 0, 9, 9);
        for (int i = 0; i < 5000 && scene.mesh.known(6, 5) != 246; i++) {
            int rank = scene.rank(6);
            int steered = rank >= 237 && rank <= 245 ? 246 - rank : rank >= 219 ? 2 : 9;
            scene.link(5, 6, scene.rank(5) == 246 ? lastCost : steered);
            scene.mesh.tick(1);
        }
        DUE.is("6 knows the rank of 5", scene.mesh.known(6, 5), 246);
        return scene;
    }

    private static void theGreatestRankIs254() {
        DUE.sentence("or that sum is greater than 254 ... its rank is 255, and it has no parent");
        Scene scene = raised(8);
        DUE.is("a sum of 254: rank", scene.rank(6), 254);
        DUE.is("a sum of 254: parent", scene.parent(6), 5);
        scene = raised(9);
        DUE.is("a sum of 255: rank", scene.rank(6), 255);
        DUE.is("a sum of 255: parent", scene.parent(6), -1);
    }

    /** From rank and LEAST 2, the cost becomes another: the new rank. */
    private static int rankAtCost(int rise, int cost) {
        Scene scene = made(7, rise, 0, 1, 1);
        DUE.is("LEAST before", scene.least(1), 2);
        scene.link(0, 1, cost);
        scene.untilChange(1);
        DUE.is("LEAST after", scene.least(1), 2);
        return scene.rank(1);
    }

    private static void leastAndRiseAreReached() {
        DUE.sentence("or that sum is greater than ... LEAST + RISE");
        DUE.is("RISE 3, sum 5", rankAtCost(3, 4), 5);
        DUE.is("RISE 3, sum 6", rankAtCost(3, 5), 255);
        DUE.is("RISE 1, sum 3", rankAtCost(1, 2), 3);
        DUE.is("RISE 1, sum 4", rankAtCost(1, 3), 255);
        DUE.is("RISE 0, sum 3", rankAtCost(0, 2), 255);
        DUE.is("RISE 8, sum 10", rankAtCost(8, 9), 10);
        DUE.is("RISE 7, sum 10", rankAtCost(7, 9), 255);
    }

    private static void leastIsTheRankIfLess() {
        DUE.sentence("and LEAST is the rank if that is less");
        Scene scene = made(3, 30, 0, 1, 5);
        DUE.is("LEAST at first", scene.least(1), 6);
        scene.link(0, 1, 3);
        scene.untilChange(1);
        DUE.is("a lesser rank", scene.rank(1), 4);
        DUE.is("LEAST", scene.least(1), 4);
        scene.link(0, 1, 8);
        scene.untilChange(1);
        DUE.is("a greater rank", scene.rank(1), 9);
        DUE.is("LEAST stays", scene.least(1), 4);
    }

    private static void nothingOtherIsNoReset() {
        DUE.sentence("When rank or parent are others than before, its timer is RESET (and only then)");
        int found = 0;
        for (int seed = 0; seed < SEEDS; seed++) {
            Scene scene = made(seed, 30, 0, 1, 2);
            boolean ready = scene.untilAdvert(0);
            Scene.Past past = scene.past(1);
            scene.mesh.tick(1);
            if (ready && past.interval() > 4 && past.clock() + 1 < past.interval() && scene.counted(1) > past.counted()) {
                found++;
                DUE.is("interval", scene.interval(1), past.interval());
                DUE.is("clock", scene.clock(1), past.clock() + 1);
                DUE.is("COUNT", scene.counted(1), past.counted() + 1);
                DUE.is("NUMBER", scene.number(1), past.number());
            }
        }
        found(found);
    }

    private static void aNewInterval(Scene scene, int a) {
        DUE.is("interval", scene.interval(a), 4);
        DUE.is("clock", scene.clock(a), 1);
        DUE.is("COUNT", scene.counted(a), 0);
    }

    private static void anotherRankAlone() {
        DUE.sentence("When rank or parent are others than before, its timer is RESET (another rank, the same parent)");
        int found = 0;
        for (int seed = 0; seed < SEEDS; seed++) {
            Scene scene = made(seed, 30, 0, 1, 2);
            scene.link(0, 1, 3);
            Scene.Past past = scene.untilChange(1);
            if (past.interval() > 4 && scene.now() % 64 != 0) {
                found++;
                DUE.is("rank", scene.rank(1), 4);
                DUE.is("parent", scene.parent(1), 0);
                aNewInterval(scene, 1);
                DUE.is("nothing is queued", scene.queue(1), past.queue());
                DUE.is("NUMBER", scene.number(1), past.number());
            }
        }
        found(found);
    }

    private static void anotherParentAlone() {
        DUE.sentence("When the parent is another (at the same rank): RESET, WITHDRAWAL, NUMBER and ANNOUNCE");
        int found = 0;
        for (int seed = 0; seed < SEEDS; seed++) {
            Scene scene = twoWays(seed, 30, 1, 1);
            int old = scene.parent(3);
            if (old < 1 || scene.mesh.known(3, 3 - old) != 2) {
                continue;
            }
            scene.link(old, 3, 5);
            Scene.Past past = scene.untilChange(3);
            boolean open = past != null && past.interval() > 4 && scene.now() % 64 != 0;
            if (open && scene.mesh.known(3, 3 - old) == 2) {
                found++;
                DUE.is("parent", scene.parent(3), 3 - old);
                DUE.is("rank", scene.rank(3), 3);
                aNewInterval(scene, 3);
                DUE.is("NUMBER", scene.number(3), past.number() + 1);
                DUE.is("two are queued", scene.queue(3), past.queue() + 2);
            }
        }
        found(found);
    }

    private static void theFirstParentIsNoWithdrawal() {
        DUE.sentence("When the parent is another: if there was one, a WITHDRAWAL (there was none)");
        for (int seed = 0; seed < 20; seed++) {
            Scene scene = new Scene(seed, 30, 9, 0, 1, 2).withoutOthers();
            Scene.Past past = scene.untilChange(1);
            DUE.is("no parent before", past.parent(), -1);
            DUE.is("parent", scene.parent(1), 0);
            DUE.is("the ANNOUNCE alone is queued", scene.queue(1), past.queue() + 1);
            DUE.is("NUMBER", scene.number(1), 1);
            aNewInterval(scene, 1);
        }
    }

    private static void noParentAnyMoreIsNoAnnounce() {
        DUE.sentence("When the parent is another: ... if there is one, its own NUMBER grows by 1 (there is none)");
        int found = 0;
        for (int seed = 0; seed < SEEDS; seed++) {
            Scene scene = made(seed, 0, 0, 1, 2);
            scene.link(0, 1, 3);
            Scene.Past past = scene.untilChange(1);
            if (past != null && past.interval() > 4 && scene.now() % 16 != 0) {
                found++;
                DUE.is("rank", scene.rank(1), 255);
                DUE.is("parent", scene.parent(1), -1);
                aNewInterval(scene, 1);
                DUE.is("NUMBER", scene.number(1), past.number());
                DUE.is("the WITHDRAWAL alone is queued", scene.queue(1), past.queue() + 1);
                DUE.is("next(0, 1) before", scene.mesh.next(0, 1), 2);
                scene.ticks(12);
                DUE.is("next(0, 1), withdrawn", scene.mesh.next(0, 1), 0);
            }
        }
        found(found);
    }

    private static void aGreaterVersionForgets() {
        DUE.sentence("version greater than its own: ... forgotten, LEAST is 255 ... no parent (no withdrawal)");
        int found = 0;
        for (int seed = 0; seed < SEEDS; seed++) {
            Scene scene = made(seed, 0, 0, 1, 2, 1, 2, 2);
            if (scene.mesh.known(1, 2) != 5) {
                continue;
            }
            scene.link(0, 1, 9);
            scene.mesh.repair();
            Scene.Past past = scene.untilChange(1);
            // An ADVERT of 2 may have come before that of the root.
            if (scene.mesh.known(1, 0) == 1 && scene.version(1) == 2 && scene.now() % 64 != 0) {
                found++;
                DUE.is("known(1, 2)", scene.mesh.known(1, 2), 0);
                DUE.is("known(1, 0), noted after it", scene.mesh.known(1, 0), 1);
                DUE.is("rank, though RISE is 0", scene.rank(1), 10);
                DUE.is("LEAST", scene.least(1), 10);
                DUE.is("parent", scene.parent(1), 0);
                DUE.is("NUMBER", scene.number(1), past.number() + 1);
                DUE.is("the ANNOUNCE alone is queued", scene.queue(1), past.queue() + 1);
                DUE.is("interval", scene.interval(1), 4);
                DUE.is("next(1, 2) stays", scene.mesh.next(1, 2), 3);
            }
        }
        found(found);
    }

    /** 1 has version 2 and has lost its rank; 2, with version 1 and a rank, hears it. */
    private static void aGreaterVersionWithARankToLose() {
        DUE.sentence("if it had a parent or its rank was not 255, its rank is 255, ... and its timer is RESET");
        int found = 0;
        for (int seed = 0; seed < SEEDS; seed++) {
            Scene scene = made(seed, 0, 0, 1, 1, 0, 2, 1);
            scene.untilNow(64, 6);
            scene.link(0, 2, 0);
            scene.mesh.repair();
            scene.until(1, 2, 2);
            scene.link(0, 1, 0);
            scene.mesh.send(1, 0, 15, 1);
            boolean lost = scene.until(1, 0, 255);
            boolean ready = scene.untilAdvert(1);
            Scene.Past past = scene.past(2);
            boolean had = past.rank() == 2 && past.parent() == 0 && past.interval() > 4;
            scene.tickLinked(1, 2, 1);
            if (lost && ready && had && scene.version(2) == 2 && scene.now() % 16 != 0) {
                found++;
                DUE.is("rank", scene.rank(2), 255);
                DUE.is("parent", scene.parent(2), -1);
                DUE.is("LEAST", scene.least(2), 255);
                DUE.is("known(2, 0)", scene.mesh.known(2, 0), 0);
                DUE.is("known(2, 1)", scene.mesh.known(2, 1), 255);
                DUE.is("interval", scene.interval(2), 4);
                DUE.is("clock", scene.clock(2), 1);
                DUE.is("COUNT: choosing left them as they were", scene.counted(2), 1);
                DUE.is("no withdrawal", scene.queue(2), past.queue());
            }
        }
        found(found);
    }

    /** 1 has version 2 and no rank; 2, with a timer, has version 1 and no rank; all links are cut. */
    private static Scene twoVersions(int seed) {
        Scene scene = made(seed, 0, 0, 1, 1, 0, 2, 1);
        scene.link(0, 2, 0);
        scene.mesh.repair();
        scene.mesh.send(2, 0, 15, 1);
        scene.until(1, 2, 2);
        scene.until(2, 0, 255);
        scene.link(0, 1, 0);
        scene.mesh.send(1, 0, 15, 1);
        scene.until(1, 0, 255);
        scene.ticks(100);
        boolean right = scene.version(1) == 2 && scene.version(2) == 1 && scene.rank(2) == 255 && scene.rank(1) == 255;
        return right ? scene : null;
    }

    private static void aGreaterVersionWithNothingToLose() {
        DUE.sentence("if it had a parent or its rank was not 255 ... its timer is RESET (it had none)");
        int found = 0;
        for (int seed = 0; seed < SEEDS; seed++) {
            Scene scene = twoVersions(seed);
            if (scene == null || !scene.untilAdvert(1)) {
                continue;
            }
            Scene.Past past = scene.past(2);
            boolean calm = past.interval() == 64 && past.clock() < 63 && past.queue() == 0;
            scene.tickLinked(1, 2, 1);
            if (calm && scene.version(2) == 2 && scene.now() % 16 != 0) {
                found++;
                DUE.is("known(2, 1)", scene.mesh.known(2, 1), 255);
                DUE.is("LEAST", scene.least(2), 255);
                DUE.is("interval", scene.interval(2), 64);
                DUE.is("clock", scene.clock(2), past.clock() + 1);
                DUE.is("COUNT", scene.counted(2), past.counted() + 1);
                DUE.is("rank", scene.rank(2), 255);
            }
        }
        found(found);
    }

    private static void aLesserVersionIsAReset() {
        DUE.sentence("Version less than its own: its timer is RESET, and that is all");
        int found = 0;
        for (int seed = 0; seed < SEEDS; seed++) {
            Scene scene = twoVersions(seed);
            if (scene == null || !scene.untilAdvert(2)) {
                continue;
            }
            Scene.Past past = scene.past(1);
            int known = scene.mesh.known(1, 2);
            boolean calm = past.interval() > 4 && past.queue() == 0;
            scene.tickLinked(1, 2, 1);
            if (calm && scene.queue(2) == 0 && scene.queue(1) == 0) {
                found++;
                aNewInterval(scene, 1);
                DUE.is("version", scene.version(1), 2);
                DUE.is("version of the other", scene.version(2), 1);
                DUE.is("known(1, 2)", scene.mesh.known(1, 2), known);
                DUE.is("rank", scene.rank(1), 255);
            }
        }
        found(found);
    }

    /** 3 never had a rank: from 1 it takes version 2, and then hears 2 with version 1. */
    private static void aLesserVersionWithoutATimer() {
        DUE.sentence("RESET (of a node that has a timer)");
        int found = 0;
        for (int seed = 0; seed < SEEDS; seed++) {
            Scene scene = new Scene(seed, 0, 9, 0, 1, 1, 0, 2, 1).ticks(150);
            scene.link(0, 2, 0);
            scene.mesh.repair();
            scene.mesh.send(2, 0, 15, 1);
            scene.until(1, 2, 2);
            scene.link(0, 1, 0);
            scene.mesh.send(1, 0, 15, 1);
            scene.until(1, 0, 255);
            if (scene.untilAdvert(1)) {
                scene.tickLinked(1, 3, 1);
            }
            if (scene.version(3) != 2 || scene.version(2) != 1 || !scene.untilAdvert(2)) {
                continue;
            }
            scene.link(2, 3, 1);
            int interval = scene.interval(3);
            scene.mesh.tick(1);
            if (scene.queue(2) == 0 && scene.queue(3) == 0) {
                found++;
                DUE.is("interval before", interval, 64);
                DUE.is("interval", scene.interval(3), 64);
                DUE.is("clock", scene.clock(3), 0);
                DUE.is("version", scene.version(3), 2);
                DUE.is("known(3, 2)", scene.mesh.known(3, 2), 0);
            }
        }
        found(found);
    }

    private static void anEqualVersionAtTheRootIsCounted() {
        DUE.sentence("the root ... note the sender's rank as known ... or it is the root, its COUNT grows by 1");
        int found = 0;
        for (int seed = 0; seed < SEEDS; seed++) {
            Scene scene = made(seed, 30, 0, 1, 4);
            boolean ready = scene.untilAdvert(1);
            Scene.Past past = scene.past(0);
            scene.mesh.tick(1);
            if (ready && scene.queue(1) == 0 && past.clock() + 1 < past.interval() && past.queue() == 0) {
                found++;
                DUE.is("COUNT", scene.counted(0), past.counted() + 1);
                DUE.is("known(0, 1)", scene.mesh.known(0, 1), 5);
                DUE.is("rank", scene.rank(0), 1);
                DUE.is("clock", scene.clock(0), past.clock() + 1);
            }
        }
        found(found);
    }

    private static void theDeadTakeNothing() {
        DUE.sentence("Taken by a node (not dead)");
        Scene scene = new Scene(4, 30, 9, 0, 1, 2, 0, 2, 2);
        scene.mesh.kill(1);
        scene.ticks(200);
        DUE.is("version", scene.version(1), 0);
        DUE.is("known(1, 0)", scene.mesh.known(1, 0), 0);
        DUE.is("rank", scene.rank(1), 255);
        DUE.is("COUNT", scene.counted(1), 0);
        DUE.is("queue: no SOLICIT either", scene.queue(1), 0);
        DUE.is("the living one has a rank", scene.rank(2), 3);
    }

    /** 1 has a timer and, but for the root, nobody; 2 never had a rank and solicits. */
    private static Scene solicited(int seed, boolean withRank) {
        Scene scene = new Scene(seed, 0, 9, 0, 1, 1).ticks(130);
        scene.link(0, 1, withRank ? 1 : 0);
        if (!withRank) {
            scene.mesh.send(1, 0, 15, 1);
            scene.until(1, 0, 255);
            scene.ticks(120);
        }
        for (int i = 0; i < 20; i++) {
            if (scene.untilSolicit(2) && scene.interval(1) == 64 && scene.clock(1) < 63) {
                return scene;
            }
        }
        return null;
    }

    private static void aSolicitAtRank255IsNothing() {
        DUE.sentence("SOLICIT, taken by the root or a node with a rank other than 255");
        int found = 0;
        for (int seed = 0; seed < SEEDS; seed++) {
            Scene scene = solicited(seed, false);
            if (scene == null || scene.queue(1) > 0 && scene.waits(1) == 0) {
                continue;
            }
            int clock = scene.clock(1);
            scene.link(1, 2, 1);
            scene.mesh.tick(1);
            if (scene.queue(2) == 0) {
                found++;
                DUE.is("interval", scene.interval(1), 64);
                DUE.is("clock", scene.clock(1), clock + 1);
            }
        }
        found(found);
    }

    private static void aSolicitAtARankIsAReset() {
        DUE.sentence("SOLICIT, taken by the root or a node with a rank other than 255: its timer is RESET");
        int found = 0;
        for (int seed = 0; seed < SEEDS; seed++) {
            for (int taker = 0; taker < 2; taker++) {
                Scene scene = solicited(seed, true);
                boolean calm = scene != null && scene.queue(0) + scene.queue(1) == 0 && scene.interval(0) == 64;
                if (!calm) {
                    continue;
                }
                scene.link(taker, 2, 1);
                scene.mesh.tick(1);
                if (scene.queue(2) == 0) {
                    found++;
                    aNewInterval(scene, taker);
                    DUE.is("interval of the other", scene.interval(1 - taker), 64);
                    DUE.is("known", scene.mesh.known(taker, 2), 0);
                }
            }
        }
        found(found);
    }

    private static void aTimerBeginsWithTheFirstRank() {
        DUE.sentence("TIMER ... of a node from when its rank is other than 255 for the first time");
        Scene scene = new Scene(6, 30, 9);
        scene.ticks(70);
        DUE.is("interval at first", scene.interval(1), 64);
        DUE.is("clock does not run", scene.clock(1), 0);
        scene.link(0, 1, 2);
        scene.untilChange(1);
        DUE.is("rank", scene.rank(1), 3);
        aNewInterval(scene, 1);
        scene.mesh.tick(1);
        DUE.is("clock runs", scene.clock(1), 2);
        DUE.is("clock of 2", scene.clock(2), 0);
    }

    private static void aTimerGoesOnWithoutARank() {
        DUE.sentence("TIMER ... from when its rank is other than 255 for the first time (and later, too)");
        Scene scene = made(6, 30, 0, 1, 2);
        scene.link(0, 1, 0);
        scene.mesh.send(1, 0, 15, 1);
        scene.untilChange(1);
        DUE.is("rank", scene.rank(1), 255);
        aNewInterval(scene, 1);
        scene.ticks(3);
        DUE.is("interval doubles", scene.interval(1), 8);
        DUE.is("clock begins", scene.clock(1), 0);
    }

    private static void thePointIsInTheSecondHalf() {
        DUE.sentence("the point is half the interval and a number drawn of that half");
        long[] points = new long[65];
        for (int seed = 0; seed < 400; seed++) {
            Scene scene = new Scene(seed * 7919, 0, 9);
            for (int a = 1; a < 7; a++) {
                scene.mesh.kill(a);
            }
            for (int i = 0; i < 124; i++) {
                int queue = scene.queue(0);
                int waits = scene.waits(0);
                scene.mesh.tick(1);
                // At its last tick before the next interval the clock is 0 again, but no point is there.
                boolean came = scene.queue(0) == 1 && (queue == 0 || waits == 0);
                if (came) {
                    points[scene.interval(0)] |= 1L << scene.clock(0);
                }
            }
        }
        DUE.is("interval 4: point 2 or 3", points[4], 0xcL);
        DUE.is("interval 8: point 4 .. 7", points[8], 0xf0L);
        DUE.is("interval 16: point 8 .. 15", points[16], 0xff00L);
        DUE.is("interval 32: point 16 .. 31", points[32], 0xffff0000L);
        DUE.is("interval 64: point 32 .. 63", points[64], 0xffffffff00000000L);
    }

    /**
     * 1 to 4 below the root and linked in a row, at costs that come and go, so that they advertise often.
     * The root, in its longest interval, is cut off when its COUNT is as asked: how many ADVERTs it queues then;
     * -1 if it does not come so far.
     */
    private static int queuedAtCount(int seed, int redundant, int counted) {
        Scene scene = new Scene(seed, 30, redundant);
        scene.link(0, 1, 1, 0, 2, 1, 0, 3, 1, 0, 4, 1, 1, 2, 9, 2, 3, 9, 3, 4, 9).ticks(70);
        for (int i = 0; i < 110; i++) {
            for (int a = 1; a < 5; a++) {
                scene.link(0, a, 1 + i / 4 % 2);
            }
            scene.mesh.tick(1);
            if (i > 40 && scene.clock(0) < 31 && scene.counted(0) == counted) {
                break;
            }
        }
        scene.cut(0);
        boolean right = scene.counted(0) == counted && scene.interval(0) == 64 && scene.clock(0) < 32;
        int queued = 0;
        for (int i = scene.clock(0); i < 63 && right; i++) {
            scene.mesh.tick(1);
            queued = Math.max(queued, scene.queue(0));
        }
        return right ? queued : -1;
    }

    private static void advertAtCount(int redundant, int counted, int due) {
        int found = 0;
        for (int seed = 0; seed < 300 && found < 5; seed++) {
            int queued = queuedAtCount(seed, redundant, counted);
            if (queued >= 0) {
                found++;
                DUE.is("REDUNDANT " + redundant + ", COUNT " + counted, queued, due);
            }
        }
        found(found);
    }

    private static void countIsLessThanRedundant() {
        DUE.sentence("when it is the point, and COUNT is less than REDUNDANT, an ADVERT is queued");
        advertAtCount(1, 0, 1);
        advertAtCount(1, 1, 0);
        advertAtCount(2, 1, 1);
        advertAtCount(2, 2, 0);
        advertAtCount(2, 3, 0);
        advertAtCount(9, 8, 1);
        advertAtCount(9, 9, 0);
        DUE.sentence("REDUNDANT 1 .. 9 (the nearest number for others)");
        advertAtCount(10, 8, 1);
        advertAtCount(10, 9, 0);
        advertAtCount(Integer.MAX_VALUE, 9, 0);
        advertAtCount(0, 0, 1);
        advertAtCount(0, 1, 0);
        advertAtCount(-1, 0, 1);
        advertAtCount(Integer.MIN_VALUE, 0, 1);
    }

    /** The root's ADVERT finds the air busy for so long that the next points come. */
    private static void anAdvertIsNotQueuedTwice() {
        DUE.sentence("an ADVERT is queued, unless one is in the queue");
        int found = 0;
        for (int seed = 0; seed < 300; seed++) {
            Scene scene = new Scene(seed, 30, 9);
            for (int a = 1; a < 7; a++) {
                scene.link(0, a, 2);
            }
            scene.ticks(140);
            boolean none = scene.queue(0) == 0;
            scene.cut(0);
            scene.chatter(1);
            scene.mesh.repair();
            scene.ticks(3);
            if (!none || scene.queue(0) != 1 || !scene.makeBusy(0, 3) || scene.queue(0) != 1) {
                continue;
            }
            // One ADVERT so far; it waits on, and a point comes in each interval.
            int interval = scene.interval(0);
            while (scene.waits(0) > 0) {
                scene.mesh.tick(1);
                DUE.is("queue", scene.queue(0), 1);
            }
            found += scene.interval(0) > interval && interval > 4 ? 1 : 0;
        }
        found(found);
    }

    private static void theIntervalDoublesTo64() {
        DUE.sentence("when it is the interval, the interval doubles, but is at most 64, and an interval begins");
        Scene scene = new Scene(1, 30, 9);
        int end = 0;
        for (int interval : new int[] {4, 8, 16, 32, 64, 64, 64}) {
            DUE.is("interval", scene.interval(0), interval);
            DUE.is("clock at its begin", scene.clock(0), 0);
            scene.ticks(interval - 1);
            DUE.is("clock before its end", scene.clock(0), interval - 1);
            DUE.is("interval before its end", scene.interval(0), interval);
            scene.mesh.tick(1);
            end += interval;
            DUE.is("tick", scene.now(), end);
        }
    }

    private static void aResetAt4IsNothing() {
        DUE.sentence("RESET: when the interval is not 4, it becomes 4, and an interval begins");
        Scene scene = new Scene(1, 30, 9);
        scene.ticks(3);
        scene.mesh.repair();
        DUE.is("interval 4: the clock goes on", scene.clock(0), 3);
        scene.mesh.tick(1);
        DUE.is("interval", scene.interval(0), 8);
        scene.ticks(5);
        DUE.is("clock", scene.clock(0), 5);
        scene.mesh.repair();
        DUE.is("interval 8 becomes 4", scene.interval(0), 4);
        DUE.is("clock", scene.clock(0), 0);
    }

    private static void solicitsComeInMultiplesOf16() {
        DUE.sentence("queues a SOLICIT in every tick whose number (1, 2, ..) is a multiple of 16");
        Scene scene = new Scene(1, 30, 9);
        for (int tick = 1; tick <= 70; tick++) {
            int before = scene.queue(3);
            scene.mesh.tick(1);
            if (tick % 16 == 0) {
                DUE.is("tick " + tick + ": queue before", before, 0);
                DUE.is("tick " + tick + ": queue", scene.queue(3), 1);
            } else {
                DUE.is("tick " + tick + ": queue", scene.queue(3) <= before, true);
            }
        }
    }

    /** 1 has no rank, and values for its lost child 2 that fail one by one before its SOLICIT. */
    private static void aSolicitIsNotQueuedTwice() {
        DUE.sentence("queues a SOLICIT ..., unless one is in its queue");
        int found = 0;
        for (int seed = 0; seed < SEEDS; seed++) {
            Scene scene = made(seed, 0, 0, 1, 1, 1, 2, 1);
            scene.link(0, 1, 0, 1, 2, 0);
            scene.mesh.send(1, 0, 9, 9);
            scene.ticks(100);
            for (int i = 0; i < 200 && !(scene.clock(1) < 14 && scene.now() % 16 == 14); i++) {
                scene.mesh.tick(1);
            }
            boolean calm = scene.clock(1) < 14 && scene.now() % 16 == 14 && scene.queue(1) == 0;
            boolean right = calm && scene.rank(1) == 255 && scene.mesh.next(1, 2) == 3;
            int dropped = scene.dropped();
            for (int i = 0; i < 3; i++) {
                scene.mesh.send(1, 2, 15, i);
            }
            scene.ticks(17);
            int gone = scene.dropped() - dropped;
            if (!right || scene.queue(1) != 3 - gone + 1 || gone != 1) {
                continue;
            }
            scene.mesh.tick(1);
            if (scene.dropped() - dropped == 1) {
                found++;
                DUE.is("tick", scene.now() % 16, 0);
                DUE.is("queue", scene.queue(1), 3);
            }
        }
        found(found);
    }

    private static void oneWithARankDoesNotSolicit() {
        DUE.sentence("A node that is not the root and has rank 255 queues a SOLICIT");
        int found = 0;
        for (int seed = 0; seed < 20; seed++) {
            Scene scene = made(seed, 30, 0, 1, 2);
            for (int i = 0; i < 8; i++) {
                scene.untilNow(16, 15);
                boolean calm = scene.queue(0) + scene.queue(1) == 0;
                boolean early = scene.clock(0) < 31 && scene.clock(1) < 31 && scene.now() % 64 != 63;
                scene.mesh.tick(1);
                if (calm && early) {
                    found++;
                    DUE.is("queue of the root", scene.queue(0), 0);
                    DUE.is("queue of 1", scene.queue(1), 0);
                }
            }
        }
        found(found);
    }

    private static void announcesComeInMultiplesOf64() {
        DUE.sentence("In each multiple of 64, a node with a parent lets its NUMBER grow by 1");
        Scene scene = made(9, 30, 0, 1, 2);
        int number = scene.number(1);
        for (int tick = 151; tick <= 330; tick++) {
            int queue = scene.queue(1);
            scene.mesh.tick(1);
            number += tick % 64 == 0 ? 1 : 0;
            DUE.is("tick " + tick + ": NUMBER", scene.number(1), number);
            DUE.is("tick " + tick + ": queue", tick % 64 == 0 && scene.queue(1) <= queue, false);
        }
        DUE.is("NUMBER of the root", scene.number(0), 0);
    }

    private static void oneWithoutAParentDoesNotAnnounce() {
        DUE.sentence("In each multiple of 64, a node with a parent (not one without)");
        Scene scene = made(9, 30, 0, 1, 2);
        scene.link(0, 1, 0);
        scene.mesh.send(1, 0, 15, 1);
        scene.untilChange(1);
        int number = scene.number(1);
        scene.ticks(130);
        DUE.is("NUMBER", scene.number(1), number);
        Scene lone = new Scene(9, 30, 9).ticks(130);
        DUE.is("NUMBER of one that never had one", lone.number(1), 0);
    }
}
