/** The edges that the section 'Terms' names of routes and values: one method a sentence. */
public final class RoutesEdgesTest {
    private static final Due DUE = new Due();
    private static final int SEEDS = 150;

    public static void main(String[] args) {
        aGoalWithAnEqualNumberIsTaken();
        aGoalWithALesserNumberIsNotTaken();
        theNodeItselfIsNoGoal();
        aWithdrawalOfAnEqualNumberIsTaken();
        aWithdrawalIsPassedOn();
        aWithdrawalFromOneThatIsNotTheNextIsNothing();
        nothingChangedIsNothingQueued();
        onlyTheChangedAreQueued();
        everyGoalIsAnnounced();
        withoutAParentNothingIsQueued();
        numbersAreAsTheyWereWhenQueued();
        withoutNextAndParentAValueIsDropped();
        aNextComesBeforeTheParent();
        upwardsWrongTwiceIsDropped();
        upwardsWrongOnceIsDelivered();
        wrongRightWrongIsDropped();
        downwardsWrongTwiceIsDropped();
        downwardsWrongOnceIsDelivered();
        hopsFallToNothing();
        atTheGoalHopsDoNotFall();
        DUE.end("RoutesEdgesTest");
    }

    private static void found(int found) {
        DUE.is("cases found: " + found, found > 0, true);
    }

    private static Scene made(int seed, int rise, int... links) {
        return new Scene(seed, rise, 9, links).withoutOthers().ticks(150);
    }

    /** 2, with 3 below it, goes from 1 to the root; the tick when the root has its ANNOUNCE; null if not seen. */
    private static Scene moved(int seed) {
        Scene scene = made(seed, 30, 0, 1, 2, 1, 2, 2, 2, 3, 2);
        boolean ways = scene.mesh.next(0, 3) == 2 && scene.mesh.next(1, 3) == 3 && scene.mesh.next(2, 3) == 4;
        scene.untilNow(64, 8);
        scene.link(0, 2, 1);
        int number = scene.number(3);
        if (!ways || !scene.until(2, 1, 1)) {
            return null;
        }
        for (int i = 0; i < 40 && scene.mesh.next(0, 2) != 3; i++) {
            scene.mesh.tick(1);
        }
        return scene.number(3) == number && scene.now() % 64 > 8 ? scene : null;
    }

    private static void aGoalWithAnEqualNumberIsTaken() {
        DUE.sentence("if the number in it is not less than the one that it has (but equal): its next is x");
        int found = 0;
        for (int seed = 0; seed < SEEDS; seed++) {
            Scene scene = moved(seed);
            if (scene != null) {
                found++;
                DUE.is("next(0, 2)", scene.mesh.next(0, 2), 3);
                DUE.is("next(0, 3)", scene.mesh.next(0, 3), 3);
            }
        }
        found(found);
    }

    private static void ticksUntilNext(Scene scene, int a, int goal, int due) {
        for (int i = 0; i < 60 && scene.mesh.next(a, goal) != due; i++) {
            scene.mesh.tick(1);
        }
    }

    /**
     * 3 goes from 4 to 2 and back. The ANNOUNCE of the way by 2 and 1 waits at 1, cut off, behind values, and comes
     * to the root when that of the way by 4 is there.
     */
    private static void aGoalWithALesserNumberIsNotTaken() {
        DUE.sentence("if the number in it is not less than the one that it has (it is less): nothing");
        int found = 0;
        for (int seed = 0; seed < 4 * SEEDS; seed++) {
            Scene scene = made(seed, 10, 0, 1, 1, 1, 2, 9, 2, 3, 9, 0, 4, 9, 3, 4, 9);
            scene.untilNow(64, 6);
            scene.link(2, 3, 1);
            if (scene.parent(3) != 4 || !scene.until(3, 1, 3) || scene.queue(1) > 0 || scene.parent(1) != 0) {
                continue;
            }
            ticksUntilNext(scene, 2, 3, 4);
            scene.link(0, 1, 0);
            for (int i = 0; i < 3; i++) {
                scene.mesh.send(1, 0, 15, i);
            }
            ticksUntilNext(scene, 1, 3, 3);
            boolean waits = scene.queue(1) == 4 && scene.parent(1) == 0 && scene.mesh.next(0, 3) == 0;
            scene.link(2, 3, 0);
            scene.mesh.send(3, 0, 15, 1);
            boolean back = scene.until(3, 1, 5);
            scene.link(2, 3, 9);
            ticksUntilNext(scene, 0, 3, 5);
            if (!waits || !back || scene.mesh.next(0, 3) != 5 || scene.queue(1) == 0 || scene.tries(1) > 1) {
                continue;
            }
            int delivered = scene.mesh.delivered(0, -1);
            int left = scene.queue(1);
            scene.link(0, 1, 1);
            for (int i = 0; i < 25; i++) {
                scene.mesh.tick(1);
                DUE.is("next(0, 3)", scene.mesh.next(0, 3), 5);
            }
            found += scene.mesh.delivered(0, -1) > delivered || left == 1 ? 1 : 0;
        }
        found(found);
    }

    /** 1 loses the root and goes below its own child 2: its ANNOUNCE bears 2, too. */
    private static void theNodeItselfIsNoGoal() {
        DUE.sentence("of each goal in it but the node itself");
        int found = 0;
        for (int seed = 0; seed < SEEDS; seed++) {
            Scene scene = made(seed, 200, 0, 1, 2, 1, 2, 2);
            boolean ways = scene.mesh.next(1, 2) == 3 && scene.mesh.known(1, 2) == 5;
            scene.untilNow(64, 8);
            scene.link(0, 1, 0);
            scene.mesh.send(1, 0, 15, 1);
            if (!ways || !scene.until(1, 1, 3)) {
                continue;
            }
            int number = scene.number(2);
            // The WITHDRAWAL for the root fails first.
            scene.link(0, 1, 9);
            ticksUntilNext(scene, 2, 1, 2);
            if (scene.mesh.next(2, 1) == 2 && scene.now() % 64 > 8) {
                found++;
                DUE.is("next(2, 2)", scene.mesh.next(2, 2), 0);
                DUE.is("NUMBER of 2, unless it chose anew", scene.number(2) == number || scene.parent(2) != 1, true);
            }
        }
        found(found);
    }

    /** 1 loses its rank, and withdraws with the NUMBER that it announced. */
    private static void aWithdrawalOfAnEqualNumberIsTaken() {
        DUE.sentence("A WITHDRAWAL ...: if the number is not less (but equal), and its next is x: ... no next");
        int found = 0;
        for (int seed = 0; seed < SEEDS; seed++) {
            Scene scene = made(seed, 0, 0, 1, 2);
            scene.untilNow(64, 8);
            int number = scene.number(1);
            boolean way = scene.mesh.next(0, 1) == 2;
            scene.link(0, 1, 3);
            scene.untilChange(1);
            scene.ticks(12);
            if (way && scene.number(1) == number) {
                found++;
                DUE.is("next(0, 1)", scene.mesh.next(0, 1), 0);
            }
        }
        found(found);
    }

    /** 2, with 3 below it, loses its rank: at 1 the numbers stay, but the nexts become others. */
    private static void aWithdrawalIsPassedOn() {
        DUE.sentence("Goals whose next or number became another one (the next alone), are queued as a WITHDRAWAL");
        int found = 0;
        for (int seed = 0; seed < SEEDS; seed++) {
            Scene scene = made(seed, 0, 0, 1, 1, 1, 2, 1, 2, 3, 1);
            boolean ways = scene.mesh.next(0, 2) == 2 && scene.mesh.next(0, 3) == 2 && scene.mesh.next(2, 3) == 4;
            scene.untilNow(64, 10);
            int number = scene.number(2);
            scene.link(1, 2, 2);
            if (!ways || !scene.until(2, 0, 255) || scene.number(2) != number || scene.now() % 64 < 10) {
                continue;
            }
            ticksUntilNext(scene, 1, 2, 0);
            DUE.is("next(1, 3) goes with it", scene.mesh.next(1, 3), 0);
            ticksUntilNext(scene, 0, 2, 0);
            if (scene.now() % 64 > 10 && scene.parent(1) == 0) {
                found++;
                DUE.is("next(0, 2)", scene.mesh.next(0, 2), 0);
                DUE.is("next(0, 3)", scene.mesh.next(0, 3), 0);
                DUE.is("next(0, 1)", scene.mesh.next(0, 1), 2);
            }
        }
        found(found);
    }

    /** The WITHDRAWAL of 3, passed on by 1, bears an equal number; but the root's next is 2 by now. */
    private static void aWithdrawalFromOneThatIsNotTheNextIsNothing() {
        DUE.sentence("A WITHDRAWAL ...: if the number is not less, and its next is x (it is not)");
        int found = 0;
        for (int seed = 0; seed < SEEDS; seed++) {
            Scene scene = moved(seed);
            if (scene == null || scene.mesh.next(1, 3) != 0 || scene.queue(1) == 0) {
                continue;
            }
            for (int i = 0; i < 25 && scene.now() % 64 != 63; i++) {
                found += scene.listens(1) && scene.owes(0) ? 1 : 0;
                scene.mesh.tick(1);
                DUE.is("next(0, 3)", scene.mesh.next(0, 3), 3);
                DUE.is("next(0, 2)", scene.mesh.next(0, 2), 3);
            }
        }
        found(found);
    }

    /** 1 has lost its next for 2 when the WITHDRAWAL of 2 comes. */
    private static void nothingChangedIsNothingQueued() {
        DUE.sentence("are queued as an ANNOUNCE (or WITHDRAWAL) ... if ... there are some (there are none)");
        int found = 0;
        for (int seed = 0; seed < 4 * SEEDS; seed++) {
            Scene scene = made(seed, 30, 0, 1, 2, 1, 2, 2);
            scene.untilNow(64, 8);
            boolean ways = scene.mesh.next(1, 2) == 3 && scene.parent(2) == 1;
            scene.link(1, 2, 0);
            scene.mesh.send(1, 2, 15, 1);
            ticksUntilNext(scene, 1, 2, 0);
            scene.link(1, 2, 2, 0, 2, 1);
            Scene.Past past = scene.untilChange(2);
            boolean both = past != null && past.parent() == 1 && past.queue() == 0 && scene.queue(2) == 2;
            if (!ways || !both || scene.parent(2) != 0 || scene.now() % 64 < 8 || scene.parent(1) != 0) {
                continue;
            }
            // Nobody but 1 is to hear 2 now.
            scene.link(0, 2, 0);
            boolean came = scene.mesh.next(1, 2) != 0;
            for (int i = 0; i < 20 && !came && scene.now() % 64 < 62; i++) {
                int queue = scene.queue(1);
                scene.mesh.tick(1);
                came = scene.listens(2) && scene.owes(1);
                if (came && scene.clock(1) * 2 < scene.interval(1)) {
                    found++;
                    DUE.is("queue", scene.queue(1), queue);
                    DUE.is("next(1, 2)", scene.mesh.next(1, 2), 0);
                }
            }
        }
        found(found);
    }

    /**
     * 3 is dead, so that its number stays. When the root has lost all its nexts, the ANNOUNCE of 2 comes to 1 with
     * 2 and 3 in it: only 2 is another for 1, and only 2 comes to the root.
     */
    private static void onlyTheChangedAreQueued() {
        DUE.sentence("Goals whose next or number became another one, are queued (the others are not)");
        int found = 0;
        for (int seed = 0; seed < SEEDS; seed++) {
            Scene scene = made(seed, 0, 0, 1, 1, 1, 2, 1, 2, 3, 1);
            boolean ways = scene.mesh.next(0, 3) == 2 && scene.mesh.next(1, 3) == 3 && scene.mesh.next(2, 3) == 4;
            scene.mesh.kill(3);
            scene.untilNow(64, 60);
            scene.link(1, 2, 0);
            int waiting = scene.queue(2);
            for (int i = 0; i < 3; i++) {
                scene.mesh.send(2, 1, 15, i);
            }
            scene.ticks(12);
            // The ANNOUNCE of 1 itself, with all its goals, is to be done before.
            waiting += scene.queue(1);
            int number = scene.number(1);
            scene.link(0, 1, 0);
            scene.mesh.send(0, 1, 15, 1);
            for (int i = 0; i < 25 && scene.mesh.next(0, 1) != 0; i++) {
                scene.mesh.tick(1);
            }
            boolean lost = scene.mesh.next(0, 1) + scene.mesh.next(0, 2) + scene.mesh.next(0, 3) == 0;
            boolean open = scene.parent(1) == 0 && scene.mesh.next(1, 3) == 3 && scene.queue(2) > 1;
            scene.link(0, 1, 1, 1, 2, 1);
            for (int i = 0; i < 60 && open && scene.mesh.next(0, 2) != 2; i++) {
                scene.mesh.tick(1);
                // A WITHDRAWAL of 2 would make 3 another for 1, too.
                open = scene.mesh.next(1, 3) == 3;
            }
            boolean came = scene.mesh.next(0, 2) == 2 && scene.now() % 64 > 8 && scene.number(1) == number;
            if (ways && waiting == 0 && lost && open && came) {
                found++;
                DUE.is("next(0, 3)", scene.mesh.next(0, 3), 0);
            }
        }
        found(found);
    }

    /** 2 is dead, but 1 has a next for it: at a multiple of 64 the root, that has lost both, hears of both. */
    private static void everyGoalIsAnnounced() {
        DUE.sentence("In each multiple of 64, a node with a parent ... queues an ANNOUNCE of all its goals");
        int found = 0;
        for (int seed = 0; seed < SEEDS; seed++) {
            Scene scene = made(seed, 0, 0, 1, 1, 1, 2, 1);
            boolean ways = scene.mesh.next(0, 2) == 2 && scene.mesh.next(1, 2) == 3;
            scene.mesh.kill(2);
            scene.untilNow(64, 10);
            scene.link(0, 1, 0);
            scene.mesh.send(0, 1, 15, 1);
            ticksUntilNext(scene, 0, 1, 0);
            boolean lost = scene.mesh.next(0, 1) + scene.mesh.next(0, 2) == 0;
            scene.link(0, 1, 1);
            scene.untilNow(64, 0);
            ticksUntilNext(scene, 0, 1, 2);
            if (ways && lost && scene.mesh.next(0, 1) == 2) {
                found++;
                DUE.is("next(0, 2)", scene.mesh.next(0, 2), 2);
            }
        }
        found(found);
    }

    private static void withoutAParentNothingIsQueued() {
        DUE.sentence("are queued ... for the node's parent, if it has one (it has none)");
        int found = 0;
        for (int seed = 0; seed < SEEDS; seed++) {
            Scene scene = made(seed, 0, 0, 1, 1, 1, 2, 1);
            boolean ways = scene.parent(2) == 1;
            scene.untilNow(64, 20);
            scene.link(0, 1, 0, 1, 2, 0);
            scene.mesh.send(1, 0, 15, 1);
            scene.until(1, 0, 255);
            scene.untilNow(64, 63);
            boolean none = scene.queue(2) == 0;
            scene.mesh.tick(1);
            boolean announce = none && scene.queue(2) == 1 && scene.ready(2);
            int queue = scene.queue(1);
            if (!ways || !announce || scene.rank(1) != 255 || queue == 4) {
                continue;
            }
            scene.link(1, 2, 1);
            scene.mesh.tick(1);
            scene.link(1, 2, 0);
            if (scene.owes(1) && scene.clock(1) * 2 < scene.interval(1)) {
                found++;
                DUE.is("next(1, 2)", scene.mesh.next(1, 2), 3);
                DUE.is("queue", scene.queue(1), queue);
            }
        }
        found(found);
        Scene scene = new Scene(4, 30, 9, 0, 1, 2).withoutOthers();
        ticksUntilNext(scene, 0, 1, 2);
        DUE.is("the root has a next", scene.mesh.next(0, 1), 2);
        DUE.is("the root owes", scene.owes(0), true);
        DUE.is("queue of the root", scene.queue(0), 0);
    }

    /** 2 takes a new version shortly before a multiple of 64: two ANNOUNCEs, the first with the lesser number. */
    private static void numbersAreAsTheyWereWhenQueued() {
        DUE.sentence("An ANNOUNCE bears goals with their numbers (as they are when it is queued)");
        int found = 0;
        for (int seed = 0; seed < 10 * SEEDS; seed++) {
            Scene scene = made(seed, 30, 0, 1, 2, 1, 2, 2);
            scene.untilNow(64, 36 + seed % 20);
            scene.mesh.repair();
            scene.until(2, 2, 2);
            int left = 64 - scene.now() % 64;
            boolean waits = scene.now() % 64 > 8 && scene.queue(2) == 1 && scene.waits(2) >= left;
            if (!waits || scene.parent(2) != 1) {
                continue;
            }
            scene.ticks(left);
            for (int times = 0, i = 0; times < 2 && i < 30; i++) {
                int queue = scene.queue(1);
                scene.mesh.tick(1);
                if (scene.owes(1) && scene.listens(2) && scene.tries(2) == 0) {
                    times++;
                    boolean sure = queue < 4 && scene.clock(1) * 2 < scene.interval(1);
                    found += sure && times == 2 ? 1 : 0;
                    DUE.is("passed on, time " + times, !sure || scene.queue(1) == queue + 1, true);
                }
            }
        }
        found(found);
    }

    private static void withoutNextAndParentAValueIsDropped() {
        DUE.sentence("when it has a next ..., otherwise, when it has a parent ..., otherwise it is DROPPED");
        Scene scene = made(2, 30, 0, 1, 2);
        DUE.is("at the root", scene.mesh.send(0, 5, 15, 1), 1);
        DUE.is("DROPPED", scene.dropped(), 1);
        scene.mesh.send(1, 5, 15, 1);
        DUE.is("by the parent", scene.dropped(), 1);
        scene.ticks(20);
        DUE.is("DROPPED at the root", scene.dropped(), 2);
        Scene lone = new Scene(2, 30, 9);
        DUE.is("at a node that has neither", lone.mesh.send(4, 0, 15, 1), 1);
        DUE.is("DROPPED there", lone.dropped(), 1);
        DUE.is("nothing is queued", lone.queue(4), 0);
    }

    private static void aNextComesBeforeTheParent() {
        DUE.sentence("when it has a next for the goal, it goes there, DOWN");
        Scene scene = made(2, 30, 0, 1, 2, 1, 2, 2);
        DUE.is("next(1, 2)", scene.mesh.next(1, 2), 3);
        scene.link(0, 1, 0);
        scene.mesh.send(1, 2, 1, 321);
        scene.ticks(25);
        DUE.is("delivered at once", scene.mesh.delivered(2, 0), 1321);
    }

    // ---- values that go wrong --------------------------------------------

    /** How many frames are before the value in the queue of the node that has it. */
    private static int ahead;

    /** The teller advertises, and the hearer alone hears it. */
    private static boolean tell(Scene scene, int teller, int hearer, int cost) {
        if (!scene.untilAdvert(teller)) {
            return false;
        }
        scene.tickLinked(teller, hearer, cost);
        return scene.mesh.known(hearer, teller) == scene.rank(teller) && scene.rank(hearer) == scene.rank(teller) + cost;
    }

    /** The sum of the queues of the nodes 1 to last. */
    private static int queues(Scene scene, int last) {
        int sum = 0;
        for (int a = 1; a <= last; a++) {
            sum += scene.queue(a);
        }
        return sum;
    }

    /**
     * 0 - 1 - 2 .. last with routes made, then all cut, and two nodes made to advertise soon by 5, that never had a
     * rank. Null if it does not come so far before a good while is left to the next multiple of 64.
     */
    private static Scene cutRow(int seed, int last, int lastCost, int teller1, int teller2) {
        Scene scene = new Scene(seed, 30, 9);
        for (int a = 1; a <= last; a++) {
            scene.link(a - 1, a, a == last ? lastCost : 1);
        }
        for (int a = last + 1; a < 7; a++) {
            if (a != 5) {
                scene.mesh.kill(a);
            }
        }
        scene.ticks(200);
        for (int i = 0; i < 23 && queues(scene, last) > 0; i++) {
            scene.mesh.tick(1);
        }
        boolean made = queues(scene, last) == 0;
        for (int a = 1; a <= last; a++) {
            made &= scene.rank(a) == (a == last ? last + lastCost : a + 1) && scene.parent(a) == a - 1;
            made &= scene.mesh.next(a - 1, last) == a + 1;
            scene.cut(a);
        }
        if (!made || !scene.untilSolicit(5)) {
            return null;
        }
        scene.link(teller1, 5, 9, teller2, 5, 9);
        scene.mesh.tick(1);
        scene.cut(5);
        return scene;
    }

    /**
     * 0 - 1 - 2 - 3, cut, and the ranks of 1 and 2 changed behind their children's backs; the rank of 3 is 3 and
     * the cost. Null if it does not come so far.
     */
    private static Scene ranked(int seed, int costOf3, int rankOf2, int rankOf1) {
        Scene scene = cutRow(seed, 3, costOf3, 0, 1);
        boolean told = scene != null && tell(scene, 1, 2, rankOf2 - 2) && tell(scene, 0, 1, rankOf1 - 1);
        boolean parents = told && scene.parent(1) == 0 && scene.parent(2) == 1 && scene.parent(3) == 2;
        return parents ? scene : null;
    }

    /** Ticks until the value is the first frame of node a and is on the air in the next tick: whether it is so. */
    private static boolean valueReady(Scene scene, int a) {
        for (int i = 0; i < 30 && ahead > 0; i++) {
            int queue = scene.queue(a);
            scene.mesh.tick(1);
            ahead -= scene.queue(a) < queue ? 1 : 0;
        }
        return ahead == 0 && scene.ready(a) && scene.now() < 254;
    }

    /** The value goes from node a to b, and is acknowledged, while they alone are linked: whether it came so far. */
    private static boolean pass(Scene scene, int a, int b) {
        if (!valueReady(scene, a)) {
            return false;
        }
        int before = scene.queue(b);
        scene.link(a, b, 9);
        scene.mesh.tick(1);
        boolean received = scene.owes(b);
        ahead = before;
        int aired = scene.queue(b);
        scene.mesh.tick(1);
        ahead -= scene.queue(b) < aired ? 1 : 0;
        scene.link(a, b, 0);
        return received && ahead >= 0;
    }

    /** Sends a value from 3 to 0 or from 0 to 3, hop by hop up to the given node: whether it came so far. */
    private static boolean passTo(Scene scene, int from, int last) {
        int step = from == 0 ? 1 : -1;
        ahead = scene.queue(from);
        scene.mesh.send(from, 3 - from, 15, 77);
        for (int a = from; a != last; a += step) {
            if (!pass(scene, a, a + step)) {
                return false;
            }
        }
        return true;
    }

    private static void dropsAt(int from, int last, int costOf3, int rankOf2, int rankOf1) {
        int found = 0;
        for (int seed = 0; seed < 4 * SEEDS && found < 5; seed++) {
            Scene scene = ranked(seed, costOf3, rankOf2, rankOf1);
            int before = from == 0 ? last - 1 : last + 1;
            if (scene == null || !passTo(scene, from, before)) {
                continue;
            }
            DUE.is("not DROPPED before", scene.dropped(), 0);
            if (!valueReady(scene, before)) {
                continue;
            }
            int interval = scene.interval(last);
            int queue = scene.queue(last);
            scene.link(before, last, 9);
            scene.mesh.tick(1);
            if (scene.owes(last) && interval > 4) {
                found++;
                DUE.is("DROPPED", scene.dropped(), 1);
                DUE.is("nothing is queued", scene.queue(last), queue);
                DUE.is("interval", scene.interval(last), 4);
                DUE.is("clock", scene.clock(last), 1);
                DUE.is("delivered", scene.mesh.count(1), 0);
            }
        }
        found(found);
    }

    private static void arrives(int from, int costOf3, int rankOf2, int rankOf1) {
        int found = 0;
        for (int seed = 0; seed < 4 * SEEDS && found < 5; seed++) {
            Scene scene = ranked(seed, costOf3, rankOf2, rankOf1);
            if (scene != null && passTo(scene, from, 3 - from)) {
                found++;
                DUE.is("DROPPED", scene.dropped(), 0);
                DUE.is("delivered", scene.mesh.delivered(3 - from, 0), from * 1000 + 77);
            }
        }
        found(found);
    }

    private static void upwardsWrongTwiceIsDropped() {
        DUE.sentence("or does not [go DOWN], and it is not greater ... wrong and ERRED already: it is DROPPED");
        // Equal ranks of 3, 2 and 1; then lesser ones.
        dropsAt(3, 1, 1, 4, 4);
        dropsAt(3, 1, 1, 5, 6);
    }

    private static void upwardsWrongOnceIsDelivered() {
        DUE.sentence("if it is wrong, it ERRED from now on (and goes on)");
        arrives(3, 2, 4, 4);
        arrives(3, 1, 4, 3);
        arrives(3, 1, 5, 4);
    }

    /** Ranks 5, 5, 3, 3 of 4, 3, 2, 1: from 4 to 3 it is wrong, from 3 to 2 right, from 2 to 1 wrong again. */
    private static void wrongRightWrongIsDropped() {
        DUE.sentence("it ERRED from now on (though it was right in between)");
        int found = 0;
        for (int seed = 0; seed < 10 * SEEDS && found < 3; seed++) {
            Scene scene = cutRow(seed, 4, 1, 0, 2);
            if (scene == null || !tell(scene, 2, 3, 2) || !tell(scene, 0, 1, 2)) {
                continue;
            }
            ahead = scene.queue(4);
            scene.mesh.send(4, 0, 15, 77);
            if (pass(scene, 4, 3) && pass(scene, 3, 2) && valueReady(scene, 2)) {
                DUE.is("not DROPPED before", scene.dropped(), 0);
                scene.link(1, 2, 9);
                scene.mesh.tick(1);
                found += scene.owes(1) ? 1 : 0;
                DUE.is("DROPPED", scene.dropped(), scene.owes(1) ? 1 : 0);
            }
        }
        found(found);
    }

    private static void downwardsWrongTwiceIsDropped() {
        DUE.sentence("goes DOWN and the sender's rank is not less ... wrong and ERRED already: it is DROPPED (at its goal)");
        dropsAt(0, 3, 1, 4, 4);
        dropsAt(0, 3, 1, 5, 6);
    }

    private static void downwardsWrongOnceIsDelivered() {
        DUE.sentence("If the goal is the node, it is delivered (though wrong for the first time)");
        arrives(0, 1, 4, 3);
        arrives(0, 2, 4, 4);
    }

    private static void hopsFallToNothing() {
        DUE.sentence("Otherwise HOPS falls by 1; is it 0 then, it is DROPPED; otherwise it is sent on");
        for (int hops = 1; hops <= 4; hops++) {
            Scene scene = new Scene(3, 30, 9, 0, 1, 2, 1, 2, 2, 2, 3, 2).withoutOthers().ticks(210);
            DUE.is("next(0, 3)", scene.mesh.next(0, 3), 2);
            scene.mesh.send(0, 3, hops, 5);
            scene.mesh.send(3, 0, hops, 6);
            scene.ticks(45);
            DUE.is("hops " + hops + ": DROPPED", scene.dropped(), hops < 3 ? 2 : 0);
            DUE.is("hops " + hops + ": delivered down", scene.mesh.delivered(3, 0), hops < 3 ? 0 : 5);
            DUE.is("hops " + hops + ": delivered up", scene.mesh.delivered(0, 0), hops < 3 ? 0 : 3006);
        }
    }

    private static void atTheGoalHopsDoNotFall() {
        DUE.sentence("If the goal is the node, it is delivered. Otherwise HOPS falls by 1");
        Scene scene = made(3, 30, 0, 1, 2);
        scene.mesh.send(1, 0, 1, 5);
        scene.ticks(12);
        DUE.is("delivered with one hop", scene.mesh.delivered(0, 0), 1005);
        DUE.is("DROPPED", scene.dropped(), 0);
    }
}
