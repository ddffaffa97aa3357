/** Promises 26 and 27. */
public final class FairnessTest {
    private static final Check check = new Check();

    public static void main(String[] args) {
        withoutMembers();
        withoutTime();
        oneDelegation();
        severalDelegations();
        againstFractions();
        check.end();
    }

    private static void speak(SpeakHall x, int member, int ticks) {
        x.ask(member, 0);
        x.begin();
        if (ticks > 0) {
            x.tick(ticks);
        }
        x.yield();
    }

    private static void is(String what, SpeakHall x, int apart, int above, int below) {
        check.due(what + ": apart()", x.apart(), apart);
        check.due(what + ": uneven(false)", x.uneven(false), above);
        check.due(what + ": uneven(true)", x.uneven(true), below);
    }

    private static void withoutMembers() {
        is("no members", new SpeakHall(), 0, 0, 1);
    }

    private static void withoutTime() {
        SpeakHall x = new SpeakHall();
        x.member(0, 0);
        x.member(0, 3);
        is("no time", x, 0, 0, 1);
    }

    private static void oneDelegation() {
        SpeakHall x = new SpeakHall();
        x.member(0, 3);
        x.member(0, 3);
        speak(x, 0, 7);
        is("one delegation", x, 0, 0, 1);
    }

    private static void severalDelegations() {
        SpeakHall x = new SpeakHall();
        x.member(0, 1);
        x.member(0, 4);
        speak(x, 0, 6);
        is("all of it to one of two", x, 6, 1, 2);
        speak(x, 1, 2);
        is("6 and 2", x, 4, 1, 4);
        speak(x, 1, 4);
        is("6 and 6", x, 0, 0, 1);
        x.member(0, 0);
        is("6 and 6 and 0", x, 6, 1, 3);
        x.present(2, false);
        is("who is away counts", x, 6, 1, 3);
        x.member(1, 0);
        speak(x, 3, 3);
        is("6 and 6 and 3 by a guest", x, 3, 2, 15);
    }

    private static void againstFractions() {
        for (int seed = 1; seed <= 60; seed++) {
            java.util.Random random = new java.util.Random(seed);
            SpeakHall x = new SpeakHall();
            int[] times = new int[5];
            boolean[] there = new boolean[5];
            x.limit(0, 50);
            for (int m = 0; m < 1 + seed % 10; m++) {
                int d = random.nextInt(5);
                x.member(0, d);
                there[d] = true;
                int ticks = random.nextInt(49);
                speak(x, m, ticks);
                times[d] += ticks;
            }
            long n = 0;
            long all = 0;
            long gaps = 0;
            int most = Integer.MIN_VALUE;
            int least = Integer.MAX_VALUE;
            for (int d = 0; d < 5; d++) {
                if (there[d]) {
                    n++;
                    all += times[d];
                    most = Math.max(most, times[d]);
                    least = Math.min(least, times[d]);
                    for (int o = d + 1; o < 5; o++) {
                        gaps += there[o] ? Math.abs(times[d] - times[o]) : 0;
                    }
                }
            }
            java.math.BigInteger under = java.math.BigInteger.valueOf(n * all);
            java.math.BigInteger above = java.math.BigInteger.valueOf(gaps);
            long divisor = Math.max(1, under.gcd(above).longValue());
            is("seed " + seed, x, most - least, (int) (gaps / divisor), all == 0 ? 1 : (int) (n * all / divisor));
        }
    }
}
