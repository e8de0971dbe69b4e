/** Promise 2: issue. */
public final class Promise02IssueTest extends Checks {
    public static void main(String[] args) {
        badArguments();
        everyKindIsTaken();
        badComesBeforeWaiting();
        badComesBeforeFull();
        waitsInEveryPhase();
        waitingComesBeforeFull();
        waitingComesBeforeHitAndNoRoom();
        fullByEntries();
        fullByEntriesAndPending();
        everyCoresPendingCounts();
        lastPlaceByAHit();
        lastPlaceByARequest();
        fullEvenForAHit();
        fullComesBeforeNoRoom();
        pendingOperationsCommitInAFullSystem();
        everyKindHitsOwned();
        loadHitsUpToUntil();
        writesOnLeasedCopyAreSent();
        hitSendsNothing();
        noRoomForEachNumberOfWays();
        noRoomCountsLeasedAndOwned();
        copyOfTheLineNeedsNoRoom();
        otherCoresCopiesTakeNoRoom();
        roomComesBackAfterEvict();
        yieldedCopyTakesRoom();
        sendsWithoutCopy();
        sendChangesNothingElse();
        operandOfALoadIsZero();
        keepsEveryOperand();
        finish();
    }

    /** "1. Bad core, kind not 1..3, or bad address: BAD." */
    private static void badArguments() {
        Run run = new Run(3, 2, 4, 2);
        for (int core : new int[] {LOWEST, -1, 3, 4, HIGHEST}) {
            run.due(run.x.issue(core, LOAD, 0, 0), BAD);
        }
        for (int kind : new int[] {LOWEST, -1, 0, 4, HIGHEST}) {
            run.due(run.x.issue(0, kind, 0, 0), BAD);
        }
        for (int address : new int[] {LOWEST, -1, 2, 8, HIGHEST}) {
            run.due(run.x.issue(0, STORE, address, 0), BAD);
        }
    }

    /** The same: 1, 2 and 3 are kinds. */
    private static void everyKindIsTaken() {
        for (int kind = 1; kind <= 3; kind++) {
            Run run = new Run(2, 1, 4, 1);
            run.due(run.x.issue(0, kind, 0, 0), SENT, "pending0: 10 " + kind + " 0 0 -1 -1");
        }
    }

    /** "In this order": 1 before 2. */
    private static void badComesBeforeWaiting() {
        Run run = new Run(2, 2, 4, 2);
        run.given(run.x.issue(0, LOAD, 0, 0), SENT);
        run.due(run.x.issue(0, 0, 0, 0), BAD);
        run.due(run.x.issue(0, 4, 0, 0), BAD);
        run.due(run.x.issue(0, LOAD, 2, 0), BAD);
        run.due(run.x.issue(0, LOAD, 1, 0), WAITING);
    }

    /** "In this order": 1 before 3. */
    private static void badComesBeforeFull() {
        Run run = new Run(2, 2, 4, 1);
        run.store(0, 0, 5);
        run.fillLog(0, 0, 64);
        run.due(run.x.issue(2, LOAD, 0, 0), BAD);
        run.due(run.x.issue(0, 0, 0, 0), BAD);
        run.due(run.x.issue(0, LOAD, 2, 0), BAD);
        run.due(run.x.issue(0, LOAD, 0, 0), FULL);
    }

    /** "2. Core has a pending operation: WAITING." In each phase, and not for another core's. */
    private static void waitsInEveryPhase() {
        Run run = new Run(2, 2, 4, 2);
        run.given(run.x.issue(0, STORE, 1, 5), SENT);
        run.due(run.x.issue(0, LOAD, 0, 0), WAITING);
        run.given(run.x.deliverRequest(0), SUPPLIED);
        run.due(run.x.issue(0, LOAD, 0, 0), WAITING);
        run.given(run.x.deliverReply(0), DONE);
        run.load(0, 0);
        run.given(run.x.issue(0, STORE, 0, 6), SENT);
        run.given(run.x.deliverRequest(0), RENEWED);
        run.due(run.x.issue(0, STORE, 0, 6), WAITING);
        run.given(run.x.deliverReply(0), DONE);
        run.given(run.x.issue(1, LOAD, 0, 0), SENT);
        run.due(run.x.issue(0, LOAD, 1, 0), DONE, "copy0.1: 2 1 6 5",
                "commits: 4", "log3: 0 1 1 0 5 6", "order: 0 1 2 3");
    }

    /** "In this order": 2 before 3. */
    private static void waitingComesBeforeFull() {
        Run run = new Run(2, 2, 4, 1);
        run.store(0, 0, 5);
        run.fillLog(0, 0, 63);
        run.given(run.x.issue(1, LOAD, 1, 0), SENT);
        run.due(run.x.issue(0, LOAD, 0, 0), FULL);
        run.due(run.x.issue(1, LOAD, 1, 0), WAITING);
    }

    /** "In this order": 2 before 4 and 5. */
    private static void waitingComesBeforeHitAndNoRoom() {
        Run run = new Run(2, 3, 4, 2);
        run.store(0, 0, 5);
        run.load(0, 1);
        run.given(run.x.issue(0, STORE, 1, 6), SENT);
        run.due(run.x.issue(0, STORE, 0, 7), WAITING);
        run.due(run.x.issue(0, LOAD, 1, 0), WAITING);
        run.due(run.x.issue(0, LOAD, 2, 0), WAITING);
    }

    /** "3. Log entries + pending operations of all cores is 64: FULL." By entries alone. */
    private static void fullByEntries() {
        Run run = new Run(2, 2, 4, 1);
        run.store(0, 0, 5);
        run.fillLog(0, 0, 64);
        for (int kind = LOAD; kind <= ADD; kind++) {
            run.due(run.x.issue(0, kind, 0, 0), FULL);
            run.due(run.x.issue(1, kind, 1, 0), FULL);
        }
    }

    /** The same, by entries and one, two or three operations pending in different phases. */
    private static void fullByEntriesAndPending() {
        for (int pending = 1; pending <= 3; pending++) {
            Run run = new Run(4, 4, 4, 2);
            run.store(0, 0, 5);
            run.fillLog(0, 0, 64 - pending);
            for (int core = 1; core <= pending; core++) {
                run.given(run.x.issue(core, core, core, 0), SENT);
                if (core == 2) {
                    run.given(run.x.deliverRequest(core), SUPPLIED);
                }
            }
            run.due(run.x.issue(0, LOAD, 0, 0), FULL);
            run.due(run.x.issue(0, STORE, 1, 0), FULL);
        }
    }

    /** "pending operations of all cores": each core's counts, for each other core. */
    private static void everyCoresPendingCounts() {
        for (int asker = 0; asker < 4; asker++) {
            for (int step = 1; step < 4; step++) {
                int other = (asker + step) % 4;
                Run run = new Run(4, 2, 4, 2);
                run.store(asker, 0, 5);
                run.fillLog(asker, 0, 63);
                run.given(run.x.issue(other, LOAD, 1, 0), SENT);
                run.due(run.x.issue(asker, LOAD, 0, 0), FULL);
            }
        }
    }

    /** The same: a sum of 63 leaves one place, here for a hit. */
    private static void lastPlaceByAHit() {
        for (int pending = 0; pending <= 3; pending++) {
            Run run = new Run(4, 4, 4, 2);
            run.store(0, 0, 5);
            run.fillLog(0, 0, 63 - pending);
            for (int core = 1; core <= pending; core++) {
                run.given(run.x.issue(core, core, core, 0), SENT);
            }
            run.given(run.x.issue(0, LOAD, 0, 0), DONE);
            run.due(run.x.issue(0, LOAD, 0, 0), FULL);
            same(run.x.commits(), 64 - pending);
        }
    }

    /** The same: the one place left goes to a request, which also counts. */
    private static void lastPlaceByARequest() {
        Run run = new Run(4, 4, 4, 2);
        run.store(0, 0, 5);
        run.fillLog(0, 0, 60);
        for (int core = 1; core <= 3; core++) {
            run.due(run.x.issue(core, LOAD, core, 0), SENT, "pending" + core + ": 10 1 " + core + " 0 -1 -1");
        }
        run.due(run.x.issue(0, STORE, 1, 9), SENT, "pending0: 10 2 1 9 -1 -1");
        run.due(run.x.issue(0, LOAD, 0, 0), WAITING);
        run.given(run.x.deliverRequest(0), SUPPLIED);
        run.given(run.x.deliverReply(0), DONE);
        run.due(run.x.issue(0, LOAD, 0, 0), FULL);
    }

    /** "This holds even for an operation that would be a hit." On an owned and on a leased copy. */
    private static void fullEvenForAHit() {
        Run run = new Run(2, 2, 16, 2);
        run.load(0, 1);
        run.store(0, 0, 5);
        run.fillLog(0, 0, 63);
        run.given(run.x.issue(0, LOAD, 1, 0), DONE);
        run.due(run.x.issue(0, LOAD, 1, 0), FULL);
        run.due(run.x.issue(0, LOAD, 0, 0), FULL);
        run.due(run.x.issue(0, STORE, 0, 0), FULL);
        run.due(run.x.issue(0, ADD, 0, 0), FULL);
    }

    /** "In this order": 3 before 5. */
    private static void fullComesBeforeNoRoom() {
        Run run = new Run(2, 2, 4, 1);
        run.store(0, 0, 5);
        run.fillLog(0, 0, 63);
        run.due(run.x.issue(0, LOAD, 1, 0), NO_ROOM);
        run.given(run.x.issue(0, LOAD, 0, 0), DONE);
        run.due(run.x.issue(0, LOAD, 1, 0), FULL);
    }

    /** What condition 3 is for: all that is pending finds its place in the log. */
    private static void pendingOperationsCommitInAFullSystem() {
        Run run = new Run(4, 4, 4, 2);
        run.store(0, 0, 5);
        run.fillLog(0, 0, 60);
        for (int core = 0; core < 4; core++) {
            run.given(run.x.issue(core, ADD, (core + 1) % 4, core), SENT);
        }
        for (int core = 0; core < 3; core++) {
            run.given(run.x.deliverRequest(core), SUPPLIED);
            run.given(run.x.deliverReply(core), DONE);
        }
        run.given(run.x.deliverRequest(3), BOUNCED);
        run.given(run.x.deliverRecall(0, 0), YIELDED);
        run.given(run.x.deliverWriteBack(0), DONE);
        run.given(run.x.deliverRequest(3), SUPPLIED);
        run.given(run.x.deliverReply(3), DONE);
        same(run.x.commits(), 64);
        same(run.x.log(63, VALUE), 8);
        run.due(run.x.issue(3, LOAD, 0, 0), FULL);
    }

    /** "4. Hit: if core's copy of the line is OWNED (any kind)", whatever the clock. */
    private static void everyKindHitsOwned() {
        Run run = new Run(2, 1, 4, 1);
        run.store(0, 0, 7);
        run.given(run.x.advance(0, 10), DONE);
        run.due(run.x.issue(0, LOAD, 0, 1), DONE, "copy0.0: 2 1 11 7",
                "commits: 2", "log1: 0 1 0 0 7 11", "order: 0 1");
        run.due(run.x.issue(0, ADD, 0, 1), DONE, "clock0: 12", "copy0.0: 2 12 12 8", "line0: 0 0 0 0 8 -1",
                "commits: 3", "log2: 0 3 0 1 8 12", "order: 0 1 2");
        run.given(run.x.advance(0, 64), DONE);
        run.due(run.x.issue(0, STORE, 0, 1), DONE, "copy0.0: 2 76 76 1", "line0: 0 0 0 0 1 -1",
                "commits: 4", "log3: 0 2 0 1 1 76", "order: 0 1 2 3");
    }

    /** "if kind is LOAD and the copy is LEASED with clock of core <= copy's until": below, at, above. */
    private static void loadHitsUpToUntil() {
        Run run = new Run(2, 1, 4, 1);
        run.load(0, 0);
        run.given(run.x.advance(0, 3), DONE);
        run.due(run.x.issue(0, LOAD, 0, 0), DONE, "commits: 2", "log1: 0 1 0 0 0 3", "order: 0 1");
        run.given(run.x.advance(0, 1), DONE);
        run.due(run.x.issue(0, LOAD, 0, 0), DONE, "commits: 3", "log2: 0 1 0 0 0 4", "order: 0 1 2");
        run.given(run.x.advance(0, 1), DONE);
        run.due(run.x.issue(0, LOAD, 0, 7), SENT, "pending0: 10 1 0 0 -1 -1");
        same(told(run.x).get("copy0.0"), "1 0 4 0");
    }

    /** The same: a STORE or ADD on a LEASED copy is no hit. "A LEASED copy of the line stays as it is." */
    private static void writesOnLeasedCopyAreSent() {
        for (int kind : new int[] {STORE, ADD}) {
            Run run = new Run(2, 1, 4, 1);
            run.load(0, 0);
            run.due(run.x.issue(0, kind, 0, 7), SENT, "pending0: 10 " + kind + " 0 7 -1 -1");
            same(told(run.x).get("copy0.0"), "1 0 4 0");
        }
    }

    /** "Nothing becomes pending and no message is sent." */
    private static void hitSendsNothing() {
        Run run = new Run(2, 1, 4, 1);
        run.store(0, 0, 7);
        run.given(run.x.issue(0, STORE, 0, 8), DONE);
        same(run.x.pending(0, STATE), IDLE);
        run.due(run.x.deliverRequest(0), NOTHING);
        run.due(run.x.deliverReply(0), NOTHING);
        run.due(run.x.deliverRecall(0, 0), NOTHING);
        run.due(run.x.deliverWriteBack(0), NOTHING);
    }

    /** "5. Otherwise, if core has no copy of the line and has ways copies already: NO_ROOM." */
    private static void noRoomForEachNumberOfWays() {
        for (int ways = 1; ways <= 4; ways++) {
            Run run = new Run(2, 8, 4, ways);
            for (int address = 0; address < ways; address++) {
                run.load(0, 7 - address);
            }
            for (int kind = LOAD; kind <= ADD; kind++) {
                run.due(run.x.issue(0, kind, 0, 0), NO_ROOM);
            }
        }
    }

    /** The same: the copies are counted in both states, also beyond their lease. */
    private static void noRoomCountsLeasedAndOwned() {
        Run run = new Run(2, 3, 1, 2);
        run.load(0, 0);
        run.store(0, 1, 5);
        run.given(run.x.advance(0, 64), DONE);
        run.due(run.x.issue(0, LOAD, 2, 0), NO_ROOM);
        run.due(run.x.issue(0, STORE, 2, 0), NO_ROOM);
    }

    /** The same: with a copy of the line no further room is needed. */
    private static void copyOfTheLineNeedsNoRoom() {
        for (int kind = LOAD; kind <= ADD; kind++) {
            Run run = new Run(2, 3, 1, 2);
            run.load(0, 0);
            run.store(0, 1, 5);
            run.given(run.x.advance(0, 1), DONE);
            run.due(run.x.issue(0, kind, 2, 0), NO_ROOM);
            run.due(run.x.issue(0, kind, 0, 0), SENT, "pending0: 10 " + kind + " 0 0 -1 -1");
            run.given(run.x.deliverRequest(0), RENEWED);
            run.given(run.x.deliverReply(0), DONE);
            run.due(run.x.issue(0, kind, 2, 0), NO_ROOM);
        }
    }

    /** The same: "core has", not another one. */
    private static void otherCoresCopiesTakeNoRoom() {
        Run run = new Run(4, 8, 4, 1);
        run.store(1, 0, 5);
        run.load(2, 7);
        run.due(run.x.issue(0, LOAD, 7, 0), SENT, "pending0: 10 1 7 0 -1 -1");
        run.due(run.x.issue(3, STORE, 7, 6), SENT, "pending3: 10 2 7 6 -1 -1");
        run.due(run.x.issue(1, LOAD, 7, 0), NO_ROOM);
    }

    /** The same: a copy that was given up takes no room, also while its write-back flies. */
    private static void roomComesBackAfterEvict() {
        Run run = new Run(2, 2, 4, 1);
        run.store(0, 0, 5);
        run.due(run.x.issue(0, LOAD, 1, 0), NO_ROOM);
        run.given(run.x.evict(0, 0), RETURNED);
        run.due(run.x.issue(0, LOAD, 1, 0), SENT, "pending0: 10 1 1 0 -1 -1");
    }

    /** The same: a recall takes the ownership, not the copy. */
    private static void yieldedCopyTakesRoom() {
        Run run = new Run(2, 2, 4, 1);
        run.store(0, 0, 5);
        run.given(run.x.issue(1, LOAD, 0, 0), SENT);
        run.given(run.x.deliverRequest(1), BOUNCED);
        run.given(run.x.deliverRecall(0, 0), YIELDED);
        run.due(run.x.issue(0, LOAD, 1, 0), NO_ROOM);
    }

    /** "6. Otherwise the operation becomes pending with phase ASKING (so its request is in flight): SENT." */
    private static void sendsWithoutCopy() {
        Run run = new Run(2, 3, 4, 2);
        run.due(run.x.issue(0, LOAD, 2, 55), SENT, "pending0: 10 1 2 0 -1 -1");
        run.due(run.x.issue(1, STORE, 1, -1), SENT, "pending1: 10 2 1 -1 -1 -1");
        run.given(run.x.deliverRequest(1), SUPPLIED);
        run.given(run.x.deliverRequest(0), SUPPLIED);
    }

    /** "Clocks, copies, the home, the log and other messages do not change." */
    private static void sendChangesNothingElse() {
        Run run = busy();
        run.due(run.x.issue(3, STORE, 2, 4), SENT, "pending3: 10 2 2 4 -1 -1");
        run.due(run.x.issue(0, LOAD, 1, 4), SENT, "pending0: 10 1 1 0 -1 -1");
    }

    /** "A LOAD's operand is taken as 0, whatever is given" */
    private static void operandOfALoadIsZero() {
        for (int operand : new int[] {LOWEST, -1, 0, 1, HIGHEST}) {
            Run run = new Run(2, 1, 4, 1);
            run.due(run.x.issue(0, LOAD, 0, operand), SENT, "pending0: 10 1 0 0 -1 -1");
            run.given(run.x.deliverRequest(0), SUPPLIED);
            run.given(run.x.deliverReply(0), DONE);
            run.given(run.x.issue(0, LOAD, 0, operand), DONE);
            same(run.x.log(0, OPERAND), 0);
            same(run.x.log(1, OPERAND), 0);
            same(run.x.log(1, VALUE), 0);
        }
    }

    /** "for STORE and ADD every int is allowed" */
    private static void keepsEveryOperand() {
        for (int operand : new int[] {LOWEST, -64, -1, 0, 1, 64, HIGHEST}) {
            for (int kind : new int[] {STORE, ADD}) {
                Run run = new Run(2, 1, 4, 1);
                run.due(run.x.issue(0, kind, 0, operand), SENT, "pending0: 10 " + kind + " 0 " + operand + " -1 -1");
                run.given(run.x.deliverRequest(0), SUPPLIED);
                run.given(run.x.deliverReply(0), DONE);
                same(run.x.log(0, OPERAND), operand);
                same(run.x.log(0, VALUE), operand);
                run.given(run.x.issue(0, STORE, 0, operand), DONE);
                same(run.x.log(1, VALUE), operand);
            }
        }
    }
}
