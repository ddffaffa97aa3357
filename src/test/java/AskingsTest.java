/** Promises 7 to 14. */
public final class AskingsTest {
    private static final Check check = new Check();

    public static void main(String[] args) {
        asking();
        askingsAreFull();
        withdrawing();
        keysComeAndGo();
        askedOrderWithoutKeys();
        eachKey();
        keysInTheirOrder();
        placesOfThePresent();
        waiting();
        waitingNever();
        waitingCountsTimeAndDelegations();
        waitingChangesNothing();
        fitting();
        check.end();
    }

    private static SpeakHall hall(int... kindsAndDelegations) {
        SpeakHall x = new SpeakHall();
        for (int i = 0; i < kindsAndDelegations.length; i += 2) {
            x.member(kindsAndDelegations[i], kindsAndDelegations[i + 1]);
        }
        return x;
    }

    private static void speak(SpeakHall x, int member, int sort, int ticks) {
        x.ask(member, sort);
        check.due("only " + member + " asks", x.begin(), member);
        if (ticks > 0) {
            x.tick(ticks);
        }
        if (x.floor(3) > 0 || x.floor(0) >= 0) {
            x.yield();
        }
    }

    private static void listIs(String what, SpeakHall x, int... membersAndSorts) {
        for (int i = 0; i < membersAndSorts.length; i += 2) {
            int member = membersAndSorts[i];
            int sort = membersAndSorts[i + 1];
            check.due(what + ": listed(" + i / 2 + ", false)", x.listed(i / 2, false), member);
            check.due(what + ": listed(" + i / 2 + ", true)", x.listed(i / 2, true), sort);
            check.due(what + ": place(" + member + ", " + sort + ")", x.place(member, sort), i / 2);
        }
        check.due(what + ": behind the last", x.listed(membersAndSorts.length / 2, false), Check.NONE);
    }

    private static void asking() {
        SpeakHall x = hall(0, 0, 0, 0);
        check.due("ask(2, 0)", x.ask(2, 0), Check.BEYOND);
        check.due("ask(-1, 0)", x.ask(-1, 0), Check.BEYOND);
        check.due("ask(0, 3)", x.ask(0, 3), Check.BEYOND);
        check.due("ask(0, -1)", x.ask(0, -1), Check.BEYOND);
        check.due("ask(0, 0)", x.ask(0, 0), 1);
        check.due("ask(0, 0) again", x.ask(0, 0), Check.SIZE);
        check.due("ask(0, 1)", x.ask(0, 1), 2);
        check.due("ask(0, 2)", x.ask(0, 2), 3);
        check.due("ask(1, 0)", x.ask(1, 0), 4);
        x.present(1, false);
        check.due("one who is away asks", x.ask(1, 1), 5);
        check.due("told(1)", x.told(1), 5);
    }

    private static void askingsAreFull() {
        SpeakHall x = hall(0, 0, 0, 0, 0, 0, 0, 0, 0, 0, 0, 0, 0, 0);
        for (int i = 0; i < 20; i++) {
            check.due("asking " + i, x.ask(i / 3, i % 3), i + 1);
        }
        check.due("one of that sort is there, and all is full", x.ask(0, 0), Check.SIZE);
        check.due("full", x.ask(6, 2), Check.FULL);
        check.due("full, of no sort", x.ask(6, 3), Check.BEYOND);
        check.due("withdraw(3, 1)", x.withdraw(3, 1), 19);
        check.due("room again", x.ask(6, 2), 20);
        check.due("the last in order", x.place(6, 2), 19);
        check.due("behind who went", x.place(3, 2), 10);
    }

    private static void withdrawing() {
        SpeakHall x = hall(0, 0, 0, 0);
        x.ask(0, 0);
        x.ask(1, 0);
        x.ask(0, 1);
        check.due("withdraw(2, 0)", x.withdraw(2, 0), Check.BEYOND);
        check.due("withdraw(-1, 0)", x.withdraw(-1, 0), Check.BEYOND);
        check.due("withdraw(0, 3)", x.withdraw(0, 3), Check.BEYOND);
        check.due("withdraw(0, -1)", x.withdraw(0, -1), Check.BEYOND);
        check.due("withdraw(0, 2)", x.withdraw(0, 2), Check.NONE);
        check.due("withdraw(0, 0)", x.withdraw(0, 0), 2);
        check.due("withdraw(0, 0) again", x.withdraw(0, 0), Check.NONE);
        listIs("after one went", x, 1, 0, 0, 1);
        check.due("ask(0, 0) again", x.ask(0, 0), 3);
        listIs("who asks again is last", x, 1, 0, 0, 1, 0, 0);
        x.present(1, false);
        check.due("one who is away withdraws", x.withdraw(1, 0), 2);
    }

    private static void keysComeAndGo() {
        SpeakHall x = new SpeakHall();
        check.due("key(0)", x.key(0), Check.BEYOND);
        check.due("key(10)", x.key(10), Check.BEYOND);
        check.due("key(-3)", x.key(-3), Check.BEYOND);
        for (int k = 9; k > 3; k--) {
            check.due("key(" + k + ")", x.key(k), 10 - k);
        }
        check.due("one that is there, and all is full", x.key(4), Check.SIZE);
        check.due("key(1) as the seventh", x.key(1), Check.FULL);
        check.due("key(10) as the seventh", x.key(10), Check.BEYOND);
        check.due("told(2)", x.told(2), 6);
        check.due("noKeys()", x.noKeys(), 6);
        check.due("told(2) without", x.told(2), 0);
        check.due("noKeys() again", x.noKeys(), 0);
        check.due("the one that was first", x.key(9), 1);
        check.due("the one that was second", x.key(8), 2);
    }

    private static void askedOrderWithoutKeys() {
        SpeakHall x = hall(1, 0, 2, 1, 0, 2);
        x.ask(0, 1);
        x.ask(2, 2);
        x.ask(1, 0);
        listIs("as asked", x, 0, 1, 2, 2, 1, 0);
        check.due("listed(-1, false)", x.listed(-1, false), Check.NONE);
        check.due("listed(3, true)", x.listed(3, true), Check.NONE);
        check.due("listed(2147483647, true)", x.listed(Integer.MAX_VALUE, true), Check.NONE);
    }

    private static void eachKey() {
        SpeakHall sorts = hall(0, 0, 0, 1, 0, 2, 0, 3);
        sorts.ask(0, 0);
        sorts.ask(1, 1);
        sorts.ask(2, 2);
        sorts.ask(3, 1);
        sorts.key(1);
        listIs("key 1", sorts, 2, 2, 0, 0, 1, 1, 3, 1);
        sorts.noKeys();
        sorts.key(2);
        listIs("key 2", sorts, 1, 1, 3, 1, 0, 0, 2, 2);

        SpeakHall spoken = hall(0, 0, 0, 1, 0, 2);
        speak(spoken, 0, 0, 1);
        speak(spoken, 0, 0, 1);
        speak(spoken, 1, 0, 9);
        speak(spoken, 2, 1, 3);
        spoken.ask(0, 0);
        spoken.ask(1, 0);
        spoken.ask(2, 0);
        spoken.key(3);
        listIs("key 3", spoken, 2, 0, 0, 0, 1, 0);
        spoken.noKeys();
        spoken.key(4);
        listIs("key 4", spoken, 2, 0, 1, 0, 0, 0);
        spoken.noKeys();
        spoken.key(5);
        listIs("key 5", spoken, 0, 0, 2, 0, 1, 0);

        SpeakHall delegations = hall(0, 3, 0, 3, 0, 1, 0, 4);
        delegations.ask(0, 0);
        delegations.ask(1, 0);
        delegations.key(7);
        listIs("key 7 before anybody spoke", delegations, 0, 0, 1, 0);
        delegations.withdraw(0, 0);
        delegations.withdraw(1, 0);
        speak(delegations, 1, 0, 5);
        speak(delegations, 2, 0, 6);
        delegations.ask(2, 0);
        delegations.ask(0, 0);
        delegations.ask(3, 0);
        listIs("key 7", delegations, 0, 0, 3, 0, 2, 0);
        delegations.noKeys();
        delegations.key(6);
        listIs("key 6: of a delegation, not of a member", delegations, 3, 0, 0, 0, 2, 0);

        SpeakHall kinds = hall(1, 0, 3, 0, 2, 0, 0, 0, 2, 0);
        for (int m = 0; m < 5; m++) {
            kinds.ask(m, 0);
        }
        kinds.key(8);
        listIs("key 8", kinds, 2, 0, 3, 0, 4, 0, 0, 0, 1, 0);
        kinds.noKeys();
        kinds.key(9);
        listIs("key 9", kinds, 2, 0, 4, 0, 0, 0, 1, 0, 3, 0);
    }

    private static void keysInTheirOrder() {
        SpeakHall x = hall(0, 0, 2, 0, 2, 0);
        x.ask(0, 2);
        x.ask(1, 0);
        x.ask(2, 2);
        x.key(9);
        x.key(1);
        listIs("chairs, then points", x, 2, 2, 1, 0, 0, 2);
        x.noKeys();
        x.key(1);
        x.key(9);
        listIs("points, then chairs", x, 2, 2, 0, 2, 1, 0);
        x.noKeys();
        listIs("no keys", x, 0, 2, 1, 0, 2, 2);
    }

    private static void placesOfThePresent() {
        SpeakHall x = hall(0, 0, 0, 0, 0, 0);
        x.ask(0, 0);
        x.ask(1, 0);
        x.ask(2, 0);
        x.present(1, false);
        listIs("without who is away", x, 0, 0, 2, 0);
        check.due("place of who is away", x.place(1, 0), Check.NONE);
        check.due("place(0, 1)", x.place(0, 1), Check.NONE);
        check.due("place(3, 0)", x.place(3, 0), Check.BEYOND);
        check.due("place(-1, 0)", x.place(-1, 0), Check.BEYOND);
        check.due("place(0, 3)", x.place(0, 3), Check.BEYOND);
        check.due("place(0, -1)", x.place(0, -1), Check.BEYOND);
        check.due("the asking stays", x.told(1), 3);
        x.present(1, true);
        listIs("back at its old place", x, 0, 0, 1, 0, 2, 0);
    }

    private static void waiting() {
        SpeakHall x = hall(0, 0, 0, 1, 0, 2, 0, 3);
        check.due("wait(4)", x.wait(4), Check.BEYOND);
        check.due("wait(-1)", x.wait(-1), Check.BEYOND);
        x.ask(3, 1);
        check.due("asks only for a reply", x.wait(3), Check.NONE);
        x.ask(0, 0);
        x.ask(1, 0);
        x.ask(2, 0);
        x.ask(3, 0);
        check.due("replies do not come ahead", x.wait(0), 0);
        check.due("wait(3)", x.wait(3), 3);
        x.present(1, false);
        check.due("who is away does not come ahead", x.wait(3), 2);
        check.due("who is away", x.wait(1), Check.NONE);
        x.key(2);
        check.due("key 2 changes nothing among speeches", x.wait(3), 2);
        check.due("begin() takes the reply", x.begin(), 3);
        check.due("wait(3) while it has the floor", x.wait(3), 2);
    }

    private static void waitingNever() {
        SpeakHall x = hall(0, 0, 2, 0);
        x.ask(0, 0);
        x.ask(1, 0);
        x.key(9);
        check.due("the chair again and again", x.wait(0), Check.NEVER);
        check.due("the chair", x.wait(1), 0);
        check.due("a finding, too", x.told(4), 1);
        // With LIMIT 1 the other needs as many turns as the member has ticks more, by key 5.
        for (int ticks = 98; ticks <= 101; ticks++) {
            SpeakHall y = hall(0, 0, 0, 1);
            y.limit(0, 50);
            speak(y, 0, 0, 50);
            speak(y, 0, 0, ticks - 50 > 50 ? 50 : ticks - 50);
            if (ticks > 100) {
                speak(y, 0, 0, ticks - 100);
            }
            y.limit(0, 1);
            y.key(5);
            y.ask(1, 0);
            y.ask(0, 0);
            // At equal TIME the member asked first: the other asks anew each time.
            check.due("behind by " + ticks, y.wait(0), ticks < 100 ? ticks : Check.NEVER);
        }
    }

    private static void waitingCountsTimeAndDelegations() {
        SpeakHall x = hall(3, 0, 0, 0, 0, 1);
        x.key(5);
        speak(x, 2, 0, 10);
        speak(x, 2, 0, 5);
        for (int m = 0; m < 3; m++) {
            x.ask(m, 0);
        }
        // Member 2 has 15. The expert 0 gets 20 at once; member 1 gets 10, then 20.
        check.due("an expert has twice the limit", x.wait(2), 3);
        x.noKeys();
        x.key(6);
        // Delegation 0 has 20 after the expert alone.
        check.due("time of the delegation", x.wait(2), 1);
        x.noKeys();
        x.key(7);
        // Member 2 took the floor latest; after the expert, delegation 0 is the latest one.
        check.due("who took it latest", x.wait(2), 1);
        x.noKeys();
        x.key(3);
        check.due("without speeches ahead", x.wait(2), 2);
        x.noKeys();
        x.key(4);
        // Member 2 has had two speeches.
        check.due("fewer speeches ahead", x.wait(2), 4);
    }

    private static void waitingChangesNothing() {
        SpeakHall x = hall(0, 0, 0, 1, 0, 2);
        for (int m = 0; m < 3; m++) {
            x.ask(m, 0);
        }
        x.key(7);
        x.wait(2);
        check.due("speeches", x.of(0, 4), 0);
        check.due("time", x.of(0, 3), 0);
        check.due("time of the delegation", x.time(0), 0);
        check.due("minutes", x.told(3), 0);
        check.due("askings", x.told(1), 3);
        listIs("as before", x, 0, 0, 1, 0, 2, 0);
    }

    private static void fitting() {
        SpeakHall x = hall(0, 0, 3, 0, 0, 0, 0, 0);
        check.due("nothing to fit", x.fits(1000, false), 0);
        x.ask(0, 1);
        x.ask(1, 0);
        x.ask(2, 2);
        x.ask(3, 0);
        // LIMITS in order: 4, 20, 2, 10.
        int[][] due = {{0, 0, 0}, {1, 0, 0}, {2, 0, 1}, {3, 0, 1}, {4, 1, 1}, {5, 1, 1}, {6, 1, 2}, {15, 1, 2}, {16, 1, 3},
            {23, 1, 3}, {24, 2, 2}, {25, 2, 2}, {26, 3, 3}, {35, 3, 3}, {36, 4, 4}, {1000, 4, 4}};
        for (int[] row : due) {
            check.due("fits(" + row[0] + ", false)", x.fits(row[0], false), row[1]);
            check.due("fits(" + row[0] + ", true)", x.fits(row[0], true), row[2]);
        }
        check.due("fits(-1, false)", x.fits(-1, false), Check.BEYOND);
        check.due("fits(1001, false)", x.fits(1001, false), Check.BEYOND);
        x.present(1, false);
        check.due("without who is away", x.fits(16, false), 3);
        x.key(1);
        check.due("in the order of the list", x.fits(5, false), 1);
    }
}
